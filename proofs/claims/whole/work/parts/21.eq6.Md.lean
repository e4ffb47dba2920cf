/-! equations of Md (by program) -/
set_option maxRecDepth 20000 in
theorem q_Md_in (y0 : Int) (y2 : Int) (y4 : Int) (h : mH) : F_Md_in y0 y2 y4 h =
  if icmp y0 y2 < 0 then
    (some (0, h))
  else
    (if 0 < icmp y0 y4 then
      (some (0, h))
    else
      (some (1, h))) := by
  refine (congrArg asI (if_pos rfl)).trans ?_
  show asI (Lim 135 0 [some (.inr (.inl y0)), none, some (.inr (.inl y2)), none, some (.inr (.inl y4)), none] [] h) = _
  refine A_lload_n d_135_0 rfl ?_
  refine A_lload_n d_135_1 rfl ?_
  refine A_lcmp d_135_2 ?_
  refine A_lt0 (t := 17) d_135_3 (by decide) ?_ ?_
  · refine A_iconst d_135_17 (by decide) ?_
    exact A_iretz rfl d_135_18 (by decide)
  · refine A_lload_n d_135_6 rfl ?_
    refine A_lload d_135_7 rfl ?_
    refine A_lcmp d_135_9 ?_
    refine A_gt0 (t := 17) d_135_10 (by decide) ?_ ?_
    · refine A_iconst d_135_17 (by decide) ?_
      exact A_iretz rfl d_135_18 (by decide)
    · refine A_iconst d_135_13 (by decide) ?_
      refine A_goto (t := 18) d_135_14 (by decide) ?_
      exact A_iretz rfl d_135_18 (by decide)
set_option maxRecDepth 20000 in
theorem q_Md_has (x0 : Int) (x1 : Int) (h : mH) : F_Md_has x0 x1 h =
  if iand (ishr x0 x1) 1 ≠ 1 then
    (some (0, h))
  else
    (some (1, h)) := by
  refine (congrArg asI (if_pos rfl)).trans ?_
  show asI (Lim 136 0 [some (.inl x0), some (.inl x1)] [] h) = _
  refine A_iload_n d_136_0 rfl ?_
  refine A_iload_n d_136_1 rfl ?_
  refine A_ishr d_136_2 ?_
  refine A_iconst d_136_3 (by decide) ?_
  refine A_iand d_136_4 ?_
  refine A_iconst d_136_5 (by decide) ?_
  refine A_ne (t := 13) d_136_6 (by decide) ?_ ?_
  · refine A_iconst d_136_13 (by decide) ?_
    exact A_iretz rfl d_136_14 (by decide)
  · refine A_iconst d_136_9 (by decide) ?_
    refine A_goto (t := 14) d_136_10 (by decide) ?_
    exact A_iretz rfl d_136_14 (by decide)
set_option maxRecDepth 20000 in
theorem q_Md_bits_4 (x0 : Int) (x1 : Int) (x2 : Int) (h : mH) : B_Md_bits_4 x0 x1 x2 h =
  if 12 ≤ x2 then
    (some (x1, h))
  else
    (B_Md_bits_4 x0 (w32 (x1 + (iand (ishr x0 x2) 1))) (w32 (x2 + 1)) h) := by
  unfold B_Md_bits_4
  refine A_iload_n d_137_4 rfl ?_
  refine A_bipush d_137_5 (by decide) ?_
  refine A_ge (t := 24) d_137_7 (by decide) ?_ ?_
  · refine A_iload_n d_137_24 rfl ?_
    exact A_ireti rfl d_137_25
  · refine A_iload_n d_137_10 rfl ?_
    refine A_iload_n d_137_11 rfl ?_
    refine A_iload_n d_137_12 rfl ?_
    refine A_ishr d_137_13 ?_
    refine A_iconst d_137_14 (by decide) ?_
    refine A_iand d_137_15 ?_
    refine A_iadd d_137_16 ?_
    refine A_istore_n d_137_17 rfl ?_
    refine A_iinc d_137_18 (by decide) rfl rfl ?_
    refine A_goto (t := 4) d_137_21 (by decide) ?_
    exact rfl
set_option maxRecDepth 20000 in
theorem q_Md_bits (x0 : Int) (h : mH) : F_Md_bits x0 h =
  B_Md_bits_4 x0 0 0 h := by
  refine (congrArg asI (if_pos rfl)).trans ?_
  show asI (Lim 137 0 [some (.inl x0), none, none] [] h) = _
  refine A_iconst d_137_0 (by decide) ?_
  refine A_istore_n d_137_1 rfl ?_
  refine A_iconst d_137_2 (by decide) ?_
  refine A_istore_n d_137_3 rfl ?_
  exact rfl
set_option maxRecDepth 20000 in
theorem q_Md_begins_17 (a0 : Nat) (x1 : Int) (h : mH) : B_Md_begins_17 a0 x1 h =
  if 120 ≤ x1 then
    (some h)
  else
    ((gfd 6 12 h a0).bind fun v24 =>
    (ast h v24.toNat x1 0).bind fun h29 =>
    B_Md_begins_17 a0 (w32 (x1 + 1)) h29) := by
  unfold B_Md_begins_17
  refine A_iload_n d_138_17 rfl ?_
  refine A_bipush d_138_18 (by decide) ?_
  refine A_ge (t := 36) d_138_20 (by decide) ?_ ?_
  · exact A_ret rfl d_138_36
  · refine A_aload_n d_138_23 rfl ?_
    refine A_getfA rfl d_138_24 kF_6_34 (fun v24 => ?_)
    refine A_iload_n d_138_27 rfl ?_
    refine A_iconst d_138_28 (by decide) ?_
    refine A_iast rfl d_138_29 (fun h29 => ?_)
    refine A_iinc d_138_30 (by decide) rfl rfl ?_
    refine A_goto (t := 17) d_138_33 (by decide) ?_
    exact rfl
set_option maxRecDepth 20000 in
theorem q_Md_begins (a0 : Nat) (h : mH) (ho : isO h a0 6 = true) : F_Md_begins a0 h =
  (pfd 6 6 h a0 0).bind fun h2 =>
  (pfd 6 9 h2 a0 0).bind fun h7 =>
  (pfd 6 13 h7 a0 0).bind fun h12 =>
  B_Md_begins_17 a0 0 h12 := by
  refine (congrArg asU (if_pos ho)).trans ?_
  show asU (Lim 138 0 [some (.inr (.inr a0)), none] [] h) = _
  refine A_aload_n d_138_0 rfl ?_
  refine A_iconst d_138_1 (by decide) ?_
  refine A_putfI rfl d_138_2 kF_6_80 rfl (fun h2 => ?_)
  refine A_aload_n d_138_5 rfl ?_
  refine A_iconst d_138_6 (by decide) ?_
  refine A_putfI rfl d_138_7 kF_6_84 rfl (fun h7 => ?_)
  refine A_aload_n d_138_10 rfl ?_
  refine A_iconst d_138_11 (by decide) ?_
  refine A_putfI rfl d_138_12 kF_6_87 rfl (fun h12 => ?_)
  refine A_iconst d_138_15 (by decide) ?_
  refine A_istore_n d_138_16 rfl ?_
  exact rfl
set_option maxRecDepth 20000 in
theorem q_Md_tellsSort_17 (a0 : Nat) (x1 : Int) (x2 : Int) (x3 : Int) (x4 : Int) (h : mH) : B_Md_tellsSort_17 a0 x1 x2 x3 x4 h =
  if x4 < 0 then
    ((gfd 6 6 h a0).bind fun v55 =>
    (pfd 6 6 h a0 (w32 (v55 + 1))).bind fun h60 =>
    some h60)
  else
    ((gfd 6 8 h a0).bind fun v23 =>
    (gfd 6 6 h a0).bind fun v28 =>
    (ast h v23.toNat (w32 ((w32 (3 * v28)) + x4)) (w32 ((Int.tmod x3 10) + 1))).bind fun h41 =>
    B_Md_tellsSort_17 a0 x1 x2 (w32 (Int.tdiv x3 10)) (w32 (x4 + (-1))) h41) := by
  unfold B_Md_tellsSort_17
  refine A_iload d_139_17 rfl ?_
  refine A_lt0 (t := 53) d_139_19 (by decide) ?_ ?_
  · refine A_aload_n d_139_53 rfl ?_
    refine A_dup d_139_54 rfl ?_
    refine A_getfI rfl d_139_55 kF_6_80 (by decide) (fun v55 => ?_)
    refine A_iconst d_139_58 (by decide) ?_
    refine A_iadd d_139_59 ?_
    refine A_putfI rfl d_139_60 kF_6_80 rfl (fun h60 => ?_)
    exact A_ret rfl d_139_63
  · refine A_aload_n d_139_22 rfl ?_
    refine A_getfA rfl d_139_23 kF_6_25 (fun v23 => ?_)
    refine A_iconst d_139_26 (by decide) ?_
    refine A_aload_n d_139_27 rfl ?_
    refine A_getfI rfl d_139_28 kF_6_80 (by decide) (fun v28 => ?_)
    refine A_imul d_139_31 ?_
    refine A_iload d_139_32 rfl ?_
    refine A_iadd d_139_34 ?_
    refine A_iload_n d_139_35 rfl ?_
    refine A_bipush d_139_36 (by decide) ?_
    refine A_irem d_139_38 (by decide) ?_
    refine A_iconst d_139_39 (by decide) ?_
    refine A_iadd d_139_40 ?_
    refine A_iast rfl d_139_41 (fun h41 => ?_)
    refine A_iload_n d_139_42 rfl ?_
    refine A_bipush d_139_43 (by decide) ?_
    refine A_idiv d_139_45 (by decide) ?_
    refine A_istore_n d_139_46 rfl ?_
    refine A_iinc d_139_47 (by decide) rfl rfl ?_
    refine A_goto (t := 17) d_139_50 (by decide) ?_
    exact rfl
set_option maxRecDepth 20000 in
theorem q_Md_tellsSort (a0 : Nat) (x1 : Int) (x2 : Int) (h : mH) (ho : isO h a0 6 = true) : F_Md_tellsSort a0 x1 x2 h =
  (gfd 6 7 h a0).bind fun v1 =>
  (gfd 6 6 h a0).bind fun v5 =>
  (ast h v1.toNat v5 x1).bind fun h9 =>
  B_Md_tellsSort_17 a0 x1 x2 x2 (w32 (x1 - 1)) h9 := by
  refine (congrArg asU (if_pos ho)).trans ?_
  show asU (Lim 139 0 [some (.inr (.inr a0)), some (.inl x1), some (.inl x2), none, none] [] h) = _
  refine A_aload_n d_139_0 rfl ?_
  refine A_getfA rfl d_139_1 kF_6_22 (fun v1 => ?_)
  refine A_aload_n d_139_4 rfl ?_
  refine A_getfI rfl d_139_5 kF_6_80 (by decide) (fun v5 => ?_)
  refine A_iload_n d_139_8 rfl ?_
  refine A_iast rfl d_139_9 (fun h9 => ?_)
  refine A_iload_n d_139_10 rfl ?_
  refine A_istore_n d_139_11 rfl ?_
  refine A_iload_n d_139_12 rfl ?_
  refine A_iconst d_139_13 (by decide) ?_
  refine A_isub d_139_14 ?_
  refine A_istore d_139_15 rfl ?_
  exact rfl
set_option maxRecDepth 20000 in
theorem q_Md_tellsLabel_6 (a0 : Nat) (x1 : Int) (x2 : Int) (x3 : Int) (x4 : Int) (x5 : Int) (h : mH) : B_Md_tellsLabel_6 a0 x1 x2 x3 x4 x5 h =
  if x5 < 0 then
    ((gfd 6 12 h a0).bind fun v45 =>
    (gfd 6 9 h a0).bind fun v51 =>
    (ast h v45.toNat (w32 ((w32 (30 * v51)) + 4)) x3).bind fun h58 =>
    (gfd 6 10 h58 a0).bind fun v60 =>
    (gfd 6 9 h58 a0).bind fun v64 =>
    (ast h58 v60.toNat v64 x2).bind fun h68 =>
    (gfd 6 9 h68 a0).bind fun v71 =>
    (pfd 6 9 h68 a0 (w32 (v71 + 1))).bind fun h76 =>
    some h76)
  else
    ((gfd 6 12 h a0).bind fun v12 =>
    (gfd 6 9 h a0).bind fun v18 =>
    (ast h v12.toNat (w32 ((w32 (30 * v18)) + x5)) (Int.tmod x4 10)).bind fun h30 =>
    B_Md_tellsLabel_6 a0 x1 x2 x3 (w32 (Int.tdiv x4 10)) (w32 (x5 + (-1))) h30) := by
  unfold B_Md_tellsLabel_6
  refine A_iload d_140_6 rfl ?_
  refine A_lt0 (t := 44) d_140_8 (by decide) ?_ ?_
  · refine A_aload_n d_140_44 rfl ?_
    refine A_getfA rfl d_140_45 kF_6_34 (fun v45 => ?_)
    refine A_bipush d_140_48 (by decide) ?_
    refine A_aload_n d_140_50 rfl ?_
    refine A_getfI rfl d_140_51 kF_6_84 (by decide) (fun v51 => ?_)
    refine A_imul d_140_54 ?_
    refine A_iconst d_140_55 (by decide) ?_
    refine A_iadd d_140_56 ?_
    refine A_iload_n d_140_57 rfl ?_
    refine A_iast rfl d_140_58 (fun h58 => ?_)
    refine A_aload_n d_140_59 rfl ?_
    refine A_getfA rfl d_140_60 kF_6_28 (fun v60 => ?_)
    refine A_aload_n d_140_63 rfl ?_
    refine A_getfI rfl d_140_64 kF_6_84 (by decide) (fun v64 => ?_)
    refine A_iload_n d_140_67 rfl ?_
    refine A_iast rfl d_140_68 (fun h68 => ?_)
    refine A_aload_n d_140_69 rfl ?_
    refine A_dup d_140_70 rfl ?_
    refine A_getfI rfl d_140_71 kF_6_84 (by decide) (fun v71 => ?_)
    refine A_iconst d_140_74 (by decide) ?_
    refine A_iadd d_140_75 ?_
    refine A_putfI rfl d_140_76 kF_6_84 rfl (fun h76 => ?_)
    exact A_ret rfl d_140_79
  · refine A_aload_n d_140_11 rfl ?_
    refine A_getfA rfl d_140_12 kF_6_34 (fun v12 => ?_)
    refine A_bipush d_140_15 (by decide) ?_
    refine A_aload_n d_140_17 rfl ?_
    refine A_getfI rfl d_140_18 kF_6_84 (by decide) (fun v18 => ?_)
    refine A_imul d_140_21 ?_
    refine A_iload d_140_22 rfl ?_
    refine A_iadd d_140_24 ?_
    refine A_iload d_140_25 rfl ?_
    refine A_bipush d_140_27 (by decide) ?_
    refine A_irem d_140_29 (by decide) ?_
    refine A_iast rfl d_140_30 (fun h30 => ?_)
    refine A_iload d_140_31 rfl ?_
    refine A_bipush d_140_33 (by decide) ?_
    refine A_idiv d_140_35 (by decide) ?_
    refine A_istore d_140_36 rfl ?_
    refine A_iinc d_140_38 (by decide) rfl rfl ?_
    refine A_goto (t := 6) d_140_41 (by decide) ?_
    exact rfl
set_option maxRecDepth 20000 in
theorem q_Md_tellsLabel (a0 : Nat) (x1 : Int) (x2 : Int) (x3 : Int) (h : mH) (ho : isO h a0 6 = true) : F_Md_tellsLabel a0 x1 x2 x3 h =
  B_Md_tellsLabel_6 a0 x1 x2 x3 x1 3 h := by
  refine (congrArg asU (if_pos ho)).trans ?_
  show asU (Lim 140 0 [some (.inr (.inr a0)), some (.inl x1), some (.inl x2), some (.inl x3), none, none] [] h) = _
  refine A_iload_n d_140_0 rfl ?_
  refine A_istore d_140_1 rfl ?_
  refine A_iconst d_140_3 (by decide) ?_
  refine A_istore d_140_4 rfl ?_
  exact rfl
set_option maxRecDepth 20000 in
theorem q_Md_tells_30 (a0 : Nat) (x1 : Int) (x2 : Int) (x3 : Int) (x4 : Int) (x5 : Int) (x6 : Int) (h : mH) : B_Md_tells_30 a0 x1 x2 x3 x4 x5 x6 h =
  (gfd 6 12 h a0).bind fun v31 =>
  (ast h v31.toNat x6 x1).bind fun h37 =>
  (gfd 6 12 h37 a0).bind fun v39 =>
  (ast h37 v39.toNat (w32 (x6 + 1)) x2).bind fun h47 =>
  (gfd 6 12 h47 a0).bind fun v49 =>
  (ast h47 v49.toNat (w32 (x6 + 2)) x3).bind fun h57 =>
  (gfd 6 12 h57 a0).bind fun v59 =>
  (ast h57 v59.toNat (w32 (x6 + 3)) x4).bind fun h68 =>
  (gfd 6 12 h68 a0).bind fun v70 =>
  (ald 10 h68 v70.toNat (w32 (x5 + 5))).bind fun v78 =>
  (ast h68 v70.toNat (w32 (x5 + 5)) (w32 (v78 + 1))).bind fun h81 =>
  some h81 := by
  unfold B_Md_tells_30
  refine A_aload_n d_141_30 rfl ?_
  refine A_getfA rfl d_141_31 kF_6_34 (fun v31 => ?_)
  refine A_iload d_141_34 rfl ?_
  refine A_iload_n d_141_36 rfl ?_
  refine A_iast rfl d_141_37 (fun h37 => ?_)
  refine A_aload_n d_141_38 rfl ?_
  refine A_getfA rfl d_141_39 kF_6_34 (fun v39 => ?_)
  refine A_iload d_141_42 rfl ?_
  refine A_iconst d_141_44 (by decide) ?_
  refine A_iadd d_141_45 ?_
  refine A_iload_n d_141_46 rfl ?_
  refine A_iast rfl d_141_47 (fun h47 => ?_)
  refine A_aload_n d_141_48 rfl ?_
  refine A_getfA rfl d_141_49 kF_6_34 (fun v49 => ?_)
  refine A_iload d_141_52 rfl ?_
  refine A_iconst d_141_54 (by decide) ?_
  refine A_iadd d_141_55 ?_
  refine A_iload_n d_141_56 rfl ?_
  refine A_iast rfl d_141_57 (fun h57 => ?_)
  refine A_aload_n d_141_58 rfl ?_
  refine A_getfA rfl d_141_59 kF_6_34 (fun v59 => ?_)
  refine A_iload d_141_62 rfl ?_
  refine A_iconst d_141_64 (by decide) ?_
  refine A_iadd d_141_65 ?_
  refine A_iload d_141_66 rfl ?_
  refine A_iast rfl d_141_68 (fun h68 => ?_)
  refine A_aload_n d_141_69 rfl ?_
  refine A_getfA rfl d_141_70 kF_6_34 (fun v70 => ?_)
  refine A_iload d_141_73 rfl ?_
  refine A_iconst d_141_75 (by decide) ?_
  refine A_iadd d_141_76 ?_
  refine A_dup2 d_141_77 ⟨rfl, rfl⟩ ?_
  refine A_iald rfl d_141_78 (fun v78 => ?_)
  refine A_iconst d_141_79 (by decide) ?_
  refine A_iadd d_141_80 ?_
  refine A_iast rfl d_141_81 (fun h81 => ?_)
  exact A_ret rfl d_141_82
set_option maxRecDepth 20000 in
theorem q_Md_tells (a0 : Nat) (x1 : Int) (x2 : Int) (x3 : Int) (x4 : Int) (h : mH) (ho : isO h a0 6 = true) : F_Md_tells a0 x1 x2 x3 x4 h =
  (gfd 6 9 h a0).bind fun v3 =>
  (gfd 6 12 h a0).bind fun v18 =>
  (ald 10 h v18.toNat (w32 ((w32 (30 * (w32 (v3 - 1)))) + 5))).bind fun v25 =>
  B_Md_tells_30 a0 x1 x2 x3 x4 (w32 (30 * (w32 (v3 - 1)))) (w32 ((w32 ((w32 (30 * (w32 (v3 - 1)))) + 6)) + (w32 (4 * v25)))) h := by
  refine (congrArg asU (if_pos ho)).trans ?_
  show asU (Lim 141 0 [some (.inr (.inr a0)), some (.inl x1), some (.inl x2), some (.inl x3), some (.inl x4), none, none] [] h) = _
  refine A_bipush d_141_0 (by decide) ?_
  refine A_aload_n d_141_2 rfl ?_
  refine A_getfI rfl d_141_3 kF_6_84 (by decide) (fun v3 => ?_)
  refine A_iconst d_141_6 (by decide) ?_
  refine A_isub d_141_7 ?_
  refine A_imul d_141_8 ?_
  refine A_istore d_141_9 rfl ?_
  refine A_iload d_141_11 rfl ?_
  refine A_bipush d_141_13 (by decide) ?_
  refine A_iadd d_141_15 ?_
  refine A_iconst d_141_16 (by decide) ?_
  refine A_aload_n d_141_17 rfl ?_
  refine A_getfA rfl d_141_18 kF_6_34 (fun v18 => ?_)
  refine A_iload d_141_21 rfl ?_
  refine A_iconst d_141_23 (by decide) ?_
  refine A_iadd d_141_24 ?_
  refine A_iald rfl d_141_25 (fun v25 => ?_)
  refine A_imul d_141_26 ?_
  refine A_iadd d_141_27 ?_
  refine A_istore d_141_28 rfl ?_
  exact rfl
set_option maxRecDepth 20000 in
theorem q_Md_settles_18 (a0 : Nat) (x1 : Int) (h : mH) : B_Md_settles_18 a0 x1 h =
  if 4 ≤ x1 then
    (B_Md_settles_55 a0 0 h)
  else
    ((gfd 6 1 h a0).bind fun v24 =>
    (gfd 6 7 h a0).bind fun v29 =>
    (ald 10 h v29.toNat x1).bind fun v33 =>
    (ast h v24.toNat x1 v33).bind fun h34 =>
    (gfd 6 4 h34 a0).bind fun v36 =>
    (gfd 6 10 h34 a0).bind fun v41 =>
    (ald 10 h34 v41.toNat x1).bind fun v45 =>
    (ast h34 v36.toNat x1 v45).bind fun h46 =>
    B_Md_settles_18 a0 (w32 (x1 + 1)) h46) := by
  unfold B_Md_settles_18
  refine A_iload_n d_142_18 rfl ?_
  refine A_iconst d_142_19 (by decide) ?_
  refine A_ge (t := 53) d_142_20 (by decide) ?_ ?_
  · refine A_iconst d_142_53 (by decide) ?_
    refine A_istore_n d_142_54 rfl ?_
    exact rfl
  · refine A_aload_n d_142_23 rfl ?_
    refine A_getfA rfl d_142_24 kF_6_7 (fun v24 => ?_)
    refine A_iload_n d_142_27 rfl ?_
    refine A_aload_n d_142_28 rfl ?_
    refine A_getfA rfl d_142_29 kF_6_22 (fun v29 => ?_)
    refine A_iload_n d_142_32 rfl ?_
    refine A_iald rfl d_142_33 (fun v33 => ?_)
    refine A_iast rfl d_142_34 (fun h34 => ?_)
    refine A_aload_n d_142_35 rfl ?_
    refine A_getfA rfl d_142_36 kF_6_16 (fun v36 => ?_)
    refine A_iload_n d_142_39 rfl ?_
    refine A_aload_n d_142_40 rfl ?_
    refine A_getfA rfl d_142_41 kF_6_28 (fun v41 => ?_)
    refine A_iload_n d_142_44 rfl ?_
    refine A_iald rfl d_142_45 (fun v45 => ?_)
    refine A_iast rfl d_142_46 (fun h46 => ?_)
    refine A_iinc d_142_47 (by decide) rfl rfl ?_
    refine A_goto (t := 18) d_142_50 (by decide) ?_
    exact rfl
set_option maxRecDepth 20000 in
theorem q_Md_settles_55 (a0 : Nat) (x1 : Int) (h : mH) : B_Md_settles_55 a0 x1 h =
  if 12 ≤ x1 then
    (B_Md_settles_93 a0 0 h)
  else
    ((gfd 6 2 h a0).bind fun v62 =>
    (gfd 6 8 h a0).bind fun v67 =>
    (ald 10 h v67.toNat x1).bind fun v71 =>
    (ast h v62.toNat x1 v71).bind fun h72 =>
    (gfd 6 5 h72 a0).bind fun v74 =>
    (gfd 6 11 h72 a0).bind fun v79 =>
    (ald 10 h72 v79.toNat x1).bind fun v83 =>
    (ast h72 v74.toNat x1 v83).bind fun h84 =>
    B_Md_settles_55 a0 (w32 (x1 + 1)) h84) := by
  unfold B_Md_settles_55
  refine A_iload_n d_142_55 rfl ?_
  refine A_bipush d_142_56 (by decide) ?_
  refine A_ge (t := 91) d_142_58 (by decide) ?_ ?_
  · refine A_iconst d_142_91 (by decide) ?_
    refine A_istore_n d_142_92 rfl ?_
    exact rfl
  · refine A_aload_n d_142_61 rfl ?_
    refine A_getfA rfl d_142_62 kF_6_13 (fun v62 => ?_)
    refine A_iload_n d_142_65 rfl ?_
    refine A_aload_n d_142_66 rfl ?_
    refine A_getfA rfl d_142_67 kF_6_25 (fun v67 => ?_)
    refine A_iload_n d_142_70 rfl ?_
    refine A_iald rfl d_142_71 (fun v71 => ?_)
    refine A_iast rfl d_142_72 (fun h72 => ?_)
    refine A_aload_n d_142_73 rfl ?_
    refine A_getfA rfl d_142_74 kF_6_19 (fun v74 => ?_)
    refine A_iload_n d_142_77 rfl ?_
    refine A_aload_n d_142_78 rfl ?_
    refine A_getfA rfl d_142_79 kF_6_31 (fun v79 => ?_)
    refine A_iload_n d_142_82 rfl ?_
    refine A_iald rfl d_142_83 (fun v83 => ?_)
    refine A_iast rfl d_142_84 (fun h84 => ?_)
    refine A_iinc d_142_85 (by decide) rfl rfl ?_
    refine A_goto (t := 55) d_142_88 (by decide) ?_
    exact rfl
set_option maxRecDepth 20000 in
theorem q_Md_settles_93 (a0 : Nat) (x1 : Int) (h : mH) : B_Md_settles_93 a0 x1 h =
  if 120 ≤ x1 then
    ((pfd 6 15 h a0 0).bind fun h119 =>
    (pfd 6 16 h119 a0 0).bind fun h124 =>
    some h124)
  else
    ((gfd 6 14 h a0).bind fun v100 =>
    (gfd 6 12 h a0).bind fun v105 =>
    (ald 10 h v105.toNat x1).bind fun v109 =>
    (ast h v100.toNat x1 v109).bind fun h110 =>
    B_Md_settles_93 a0 (w32 (x1 + 1)) h110) := by
  unfold B_Md_settles_93
  refine A_iload_n d_142_93 rfl ?_
  refine A_bipush d_142_94 (by decide) ?_
  refine A_ge (t := 117) d_142_96 (by decide) ?_ ?_
  · refine A_aload_n d_142_117 rfl ?_
    refine A_iconst d_142_118 (by decide) ?_
    refine A_putfI rfl d_142_119 kF_6_96 rfl (fun h119 => ?_)
    refine A_aload_n d_142_122 rfl ?_
    refine A_iconst d_142_123 (by decide) ?_
    refine A_putfI rfl d_142_124 kF_6_99 rfl (fun h124 => ?_)
    exact A_ret rfl d_142_127
  · refine A_aload_n d_142_99 rfl ?_
    refine A_getfA rfl d_142_100 kF_6_37 (fun v100 => ?_)
    refine A_iload_n d_142_103 rfl ?_
    refine A_aload_n d_142_104 rfl ?_
    refine A_getfA rfl d_142_105 kF_6_34 (fun v105 => ?_)
    refine A_iload_n d_142_108 rfl ?_
    refine A_iald rfl d_142_109 (fun v109 => ?_)
    refine A_iast rfl d_142_110 (fun h110 => ?_)
    refine A_iinc d_142_111 (by decide) rfl rfl ?_
    refine A_goto (t := 93) d_142_114 (by decide) ?_
    exact rfl
set_option maxRecDepth 20000 in
theorem q_Md_settles (a0 : Nat) (h : mH) (ho : isO h a0 6 = true) : F_Md_settles a0 h =
  (gfd 6 6 h a0).bind fun v2 =>
  (pfd 6 0 h a0 v2).bind fun h5 =>
  (gfd 6 9 h5 a0).bind fun v10 =>
  (pfd 6 3 h5 a0 v10).bind fun h13 =>
  B_Md_settles_18 a0 0 h13 := by
  refine (congrArg asU (if_pos ho)).trans ?_
  show asU (Lim 142 0 [some (.inr (.inr a0)), none] [] h) = _
  refine A_aload_n d_142_0 rfl ?_
  refine A_aload_n d_142_1 rfl ?_
  refine A_getfI rfl d_142_2 kF_6_80 (by decide) (fun v2 => ?_)
  refine A_putfI rfl d_142_5 kF_6_90 rfl (fun h5 => ?_)
  refine A_aload_n d_142_8 rfl ?_
  refine A_aload_n d_142_9 rfl ?_
  refine A_getfI rfl d_142_10 kF_6_84 (by decide) (fun v10 => ?_)
  refine A_putfI rfl d_142_13 kF_6_93 rfl (fun h13 => ?_)
  refine A_iconst d_142_16 (by decide) ?_
  refine A_istore_n d_142_17 rfl ?_
  exact rfl
set_option maxRecDepth 20000 in
theorem q_Md_write (a0 : Nat) (x1 : Int) (h : mH) (ho : isO h a0 6 = true) : F_Md_write a0 x1 h =
  (F_Md_in x1 32 126 h).bind fun q8 =>
  if q8.1 ≠ 0 then
    ((gfd 6 17 q8.2 a0).bind fun v17 =>
    if v17 ≠ 200 then
      ((gfd 6 18 q8.2 a0).bind fun v30 =>
      (gfd 6 17 q8.2 a0).bind fun v34 =>
      (bst q8.2 v30.toNat v34 (w8 x1)).bind fun h39 =>
      (gfd 6 17 h39 a0).bind fun v42 =>
      (pfd 6 17 h39 a0 (w32 (v42 + 1))).bind fun h47 =>
      (gfd 6 17 h47 a0).bind fun v51 =>
      some (v51, h47))
    else
      (some ((-3), q8.2)))
  else
    (some ((-1), q8.2)) := by
  refine (congrArg asI (if_pos ho)).trans ?_
  show asI (Lim 143 0 [some (.inr (.inr a0)), some (.inl x1)] [] h) = _
  refine A_iload_n d_143_0 rfl ?_
  refine A_i2l d_143_1 ?_
  refine A_ldc2 d_143_2 kJ_6_102 ?_
  refine A_ldc2 d_143_5 kJ_6_104 ?_
  refine A_call (t := 135) (way := 2) rfl d_143_8 rfl (cl kI_6_106 rfl) rfl (by decide) rfl (fun q8 => ?_)
  refine A_ne0 (t := 16) d_143_11 (by decide) ?_ ?_
  · refine A_aload_n d_143_16 rfl ?_
    refine A_getfI rfl d_143_17 kF_6_110 (by decide) (fun v17 => ?_)
    refine A_sipush d_143_20 (by decide) ?_
    refine A_ne (t := 29) d_143_23 (by decide) ?_ ?_
    · refine A_aload_n d_143_29 rfl ?_
      refine A_getfA rfl d_143_30 kF_6_40 (fun v30 => ?_)
      refine A_aload_n d_143_33 rfl ?_
      refine A_getfI rfl d_143_34 kF_6_110 (by decide) (fun v34 => ?_)
      refine A_iload_n d_143_37 rfl ?_
      refine A_i2b d_143_38 ?_
      refine A_bast rfl d_143_39 (fun h39 => ?_)
      refine A_aload_n d_143_40 rfl ?_
      refine A_dup d_143_41 rfl ?_
      refine A_getfI rfl d_143_42 kF_6_110 (by decide) (fun v42 => ?_)
      refine A_iconst d_143_45 (by decide) ?_
      refine A_iadd d_143_46 ?_
      refine A_putfI rfl d_143_47 kF_6_110 rfl (fun h47 => ?_)
      refine A_aload_n d_143_50 rfl ?_
      refine A_getfI rfl d_143_51 kF_6_110 (by decide) (fun v51 => ?_)
      exact A_ireti rfl d_143_54
    · refine A_bipush d_143_26 (by decide) ?_
      exact A_ireti rfl d_143_28
  · refine A_iconst d_143_14 (by decide) ?_
    exact A_ireti rfl d_143_15
set_option maxRecDepth 20000 in
theorem q_Md_wipe (a0 : Nat) (h : mH) (ho : isO h a0 6 = true) : F_Md_wipe a0 h =
  (gfd 6 17 h a0).bind fun v1 =>
  (pfd 6 17 h a0 0).bind fun h7 =>
  some (v1, h7) := by
  refine (congrArg asI (if_pos ho)).trans ?_
  show asI (Lim 144 0 [some (.inr (.inr a0)), none] [] h) = _
  refine A_aload_n d_144_0 rfl ?_
  refine A_getfI rfl d_144_1 kF_6_110 (by decide) (fun v1 => ?_)
  refine A_istore_n d_144_4 rfl ?_
  refine A_aload_n d_144_5 rfl ?_
  refine A_iconst d_144_6 (by decide) ?_
  refine A_putfI rfl d_144_7 kF_6_110 rfl (fun h7 => ?_)
  refine A_iload_n d_144_10 rfl ?_
  exact A_ireti rfl d_144_11
set_option maxRecDepth 20000 in
theorem q_Md_letterAt (a0 : Nat) (x1 : Int) (h : mH) (ho : isO h a0 6 = true) : F_Md_letterAt a0 x1 h =
  (gfd 6 17 h a0).bind fun v2 =>
  if v2 ≤ x1 then
    (some ((-1), h))
  else
    ((gfd 6 18 h a0).bind fun v9 =>
    (bld h v9.toNat x1).bind fun v13 =>
    some (v13, h)) := by
  refine (congrArg asI (if_pos ho)).trans ?_
  show asI (Lim 145 0 [some (.inr (.inr a0)), some (.inl x1)] [] h) = _
  refine A_iload_n d_145_0 rfl ?_
  refine A_aload_n d_145_1 rfl ?_
  refine A_getfI rfl d_145_2 kF_6_110 (by decide) (fun v2 => ?_)
  refine A_ge (t := 17) d_145_5 (by decide) ?_ ?_
  · refine A_iconst d_145_17 (by decide) ?_
    exact A_ireti rfl d_145_18
  · refine A_aload_n d_145_8 rfl ?_
    refine A_getfA rfl d_145_9 kF_6_40 (fun v9 => ?_)
    refine A_iload_n d_145_12 rfl ?_
    refine A_bald rfl d_145_13 (fun v13 => ?_)
    refine A_goto (t := 18) d_145_14 (by decide) ?_
    exact A_ireti rfl d_145_18
set_option maxRecDepth 20000 in
theorem q_Md_number_5 (a0 : Nat) (x1 : Int) (x2 : Int) (x3 : Int) (x4 : Int) (h : mH) : B_Md_number_5 a0 x1 x2 x3 x4 h =
  (gfd 6 19 h a0).bind fun v7 =>
  (F_Md_letterAt a0 v7 h).bind fun q10 =>
  (F_Md_in q10.1 48 57 q10.2).bind fun q20 =>
  if q20.1 = 0 then
    ((gfd 6 21 q20.2 a0).bind fun v71 =>
    if v71 ≠ 0 then
      (B_Md_number_102 a0 x1 x2 x3 x4 a0 q20.2)
    else
      ((F_Md_in x4 1 2 q20.2).bind fun q84 =>
      if q84.1 = 0 then
        (B_Md_number_102 a0 x1 x2 x3 x4 a0 q84.2)
      else
        ((F_Md_in x3 x1 x2 q84.2).bind fun q96 =>
        if q96.1 ≠ 0 then
          (B_Md_number_107 a0 x1 x2 x3 x4 0 a0 q96.2)
        else
          (B_Md_number_102 a0 x1 x2 x3 x4 a0 q96.2))))
  else
    (if 2 ≤ x4 then
      (B_Md_number_52 a0 x1 x2 x3 x4 x3 q20.2)
    else
      ((gfd 6 19 q20.2 a0).bind fun v38 =>
      (F_Md_letterAt a0 v38 q20.2).bind fun q41 =>
      B_Md_number_52 a0 x1 x2 x3 x4 (w32 ((w32 ((w32 (10 * x3)) + q41.1)) - 48)) q41.2)) := by
  unfold B_Md_number_5
  refine A_aload_n d_146_5 rfl ?_
  refine A_aload_n d_146_6 rfl ?_
  refine A_getfI rfl d_146_7 kF_6_113 (by decide) (fun v7 => ?_)
  refine A_call (t := 145) (way := 0) rfl d_146_10 rfl (cl kI_6_116 rfl) rfl (by decide) rfl (fun q10 => ?_)
  refine A_i2l d_146_13 ?_
  refine A_ldc2 d_146_14 kJ_6_120 ?_
  refine A_ldc2 d_146_17 kJ_6_122 ?_
  refine A_call (t := 135) (way := 2) rfl d_146_20 rfl (cl kI_6_106 rfl) rfl (by decide) rfl (fun q20 => ?_)
  refine A_eq0 (t := 69) d_146_23 (by decide) ?_ ?_
  · refine A_aload_n d_146_69 rfl ?_
    refine A_aload_n d_146_70 rfl ?_
    refine A_getfI rfl d_146_71 kF_6_124 (by decide) (fun v71 => ?_)
    refine A_ne0 (t := 102) d_146_74 (by decide) ?_ ?_
    · exact rfl
    · refine A_iload d_146_77 rfl ?_
      refine A_i2l d_146_79 ?_
      refine A_lconst d_146_80 (x := 1) rfl ?_
      refine A_ldc2 d_146_81 kJ_6_128 ?_
      refine A_call (t := 135) (way := 2) rfl d_146_84 rfl (cl kI_6_106 rfl) rfl (by decide) rfl (fun q84 => ?_)
      refine A_eq0 (t := 102) d_146_87 (by decide) ?_ ?_
      · exact rfl
      · refine A_iload_n d_146_90 rfl ?_
        refine A_i2l d_146_91 ?_
        refine A_iload_n d_146_92 rfl ?_
        refine A_i2l d_146_93 ?_
        refine A_iload_n d_146_94 rfl ?_
        refine A_i2l d_146_95 ?_
        refine A_call (t := 135) (way := 2) rfl d_146_96 rfl (cl kI_6_106 rfl) rfl (by decide) rfl (fun q96 => ?_)
        refine A_ne0 (t := 106) d_146_99 (by decide) ?_ ?_
        · refine A_iconst d_146_106 (by decide) ?_
          exact rfl
        · exact rfl
  · refine A_iload d_146_26 rfl ?_
    refine A_iconst d_146_28 (by decide) ?_
    refine A_ge (t := 51) d_146_29 (by decide) ?_ ?_
    · refine A_iload_n d_146_51 rfl ?_
      exact rfl
    · refine A_bipush d_146_32 (by decide) ?_
      refine A_iload_n d_146_34 rfl ?_
      refine A_imul d_146_35 ?_
      refine A_aload_n d_146_36 rfl ?_
      refine A_aload_n d_146_37 rfl ?_
      refine A_getfI rfl d_146_38 kF_6_113 (by decide) (fun v38 => ?_)
      refine A_call (t := 145) (way := 0) rfl d_146_41 rfl (cl kI_6_116 rfl) rfl (by decide) rfl (fun q41 => ?_)
      refine A_iadd d_146_44 ?_
      refine A_bipush d_146_45 (by decide) ?_
      refine A_isub d_146_47 ?_
      refine A_goto (t := 52) d_146_48 (by decide) ?_
      exact rfl
set_option maxRecDepth 20000 in
theorem q_Md_number_52 (a0 : Nat) (x1 : Int) (x2 : Int) (x3 : Int) (x4 : Int) (s0 : Int) (h : mH) : B_Md_number_52 a0 x1 x2 x3 x4 s0 h =
  (gfd 6 19 h a0).bind fun v58 =>
  (pfd 6 19 h a0 (w32 (v58 + 1))).bind fun h63 =>
  B_Md_number_5 a0 x1 x2 s0 (w32 (x4 + 1)) h63 := by
  unfold B_Md_number_52
  refine A_istore_n d_146_52 rfl ?_
  refine A_iinc d_146_53 (by decide) rfl rfl ?_
  refine A_aload_n d_146_56 rfl ?_
  refine A_dup d_146_57 rfl ?_
  refine A_getfI rfl d_146_58 kF_6_113 (by decide) (fun v58 => ?_)
  refine A_iconst d_146_61 (by decide) ?_
  refine A_iadd d_146_62 ?_
  refine A_putfI rfl d_146_63 kF_6_113 rfl (fun h63 => ?_)
  refine A_goto (t := 5) d_146_66 (by decide) ?_
  exact rfl
set_option maxRecDepth 20000 in
theorem q_Md_number_102 (a0 : Nat) (x1 : Int) (x2 : Int) (x3 : Int) (x4 : Int) (sa0 : Nat) (h : mH) : B_Md_number_102 a0 x1 x2 x3 x4 sa0 h =
  B_Md_number_107 a0 x1 x2 x3 x4 1 sa0 h := by
  unfold B_Md_number_102
  refine A_iconst d_146_102 (by decide) ?_
  refine A_goto (t := 107) d_146_103 (by decide) ?_
  exact rfl
set_option maxRecDepth 20000 in
theorem q_Md_number_107 (a0 : Nat) (x1 : Int) (x2 : Int) (x3 : Int) (x4 : Int) (s0 : Int) (sa1 : Nat) (h : mH) : B_Md_number_107 a0 x1 x2 x3 x4 s0 sa1 h =
  ((bz s0).bind fun _ => pfd 6 21 h sa1 s0).bind fun h107 =>
  (gfd 6 21 h107 a0).bind fun v111 =>
  if v111 = 0 then
    (some (x3, h107))
  else
    (some (0, h107)) := by
  unfold B_Md_number_107
  refine A_putfZ rfl d_146_107 kF_6_124 rfl (fun h107 => ?_)
  refine A_aload_n d_146_110 rfl ?_
  refine A_getfI rfl d_146_111 kF_6_124 (by decide) (fun v111 => ?_)
  refine A_eq0 (t := 121) d_146_114 (by decide) ?_ ?_
  · refine A_iload_n d_146_121 rfl ?_
    exact A_ireti rfl d_146_122
  · refine A_iconst d_146_117 (by decide) ?_
    refine A_goto (t := 122) d_146_118 (by decide) ?_
    exact A_ireti rfl d_146_122
set_option maxRecDepth 20000 in
theorem q_Md_number (a0 : Nat) (x1 : Int) (x2 : Int) (h : mH) (ho : isO h a0 6 = true) : F_Md_number a0 x1 x2 h =
  B_Md_number_5 a0 x1 x2 0 0 h := by
  refine (congrArg asI (if_pos ho)).trans ?_
  show asI (Lim 146 0 [some (.inr (.inr a0)), some (.inl x1), some (.inl x2), none, none] [] h) = _
  refine A_iconst d_146_0 (by decide) ?_
  refine A_istore_n d_146_1 rfl ?_
  refine A_iconst d_146_2 (by decide) ?_
  refine A_istore d_146_3 rfl ?_
  exact rfl
set_option maxRecDepth 20000 in
theorem q_Md_comma_21 (a0 : Nat) (sa0 : Nat) (h : mH) : B_Md_comma_21 a0 sa0 h =
  B_Md_comma_26 a0 1 sa0 h := by
  unfold B_Md_comma_21
  refine A_iconst d_147_21 (by decide) ?_
  refine A_goto (t := 26) d_147_22 (by decide) ?_
  exact rfl
set_option maxRecDepth 20000 in
theorem q_Md_comma_26 (a0 : Nat) (s0 : Int) (sa1 : Nat) (h : mH) : B_Md_comma_26 a0 s0 sa1 h =
  ((bz s0).bind fun _ => pfd 6 21 h sa1 s0).bind fun h26 =>
  (gfd 6 19 h26 a0).bind fun v31 =>
  (pfd 6 19 h26 a0 (w32 (v31 + 1))).bind fun h36 =>
  some h36 := by
  unfold B_Md_comma_26
  refine A_putfZ rfl d_147_26 kF_6_124 rfl (fun h26 => ?_)
  refine A_aload_n d_147_29 rfl ?_
  refine A_dup d_147_30 rfl ?_
  refine A_getfI rfl d_147_31 kF_6_113 (by decide) (fun v31 => ?_)
  refine A_iconst d_147_34 (by decide) ?_
  refine A_iadd d_147_35 ?_
  refine A_putfI rfl d_147_36 kF_6_113 rfl (fun h36 => ?_)
  exact A_ret rfl d_147_39
set_option maxRecDepth 20000 in
theorem q_Md_comma (a0 : Nat) (h : mH) (ho : isO h a0 6 = true) : F_Md_comma a0 h =
  (gfd 6 21 h a0).bind fun v2 =>
  if v2 ≠ 0 then
    (B_Md_comma_21 a0 a0 h)
  else
    ((gfd 6 19 h a0).bind fun v10 =>
    (F_Md_letterAt a0 v10 h).bind fun q13 =>
    if q13.1 = 44 then
      (B_Md_comma_26 a0 0 a0 q13.2)
    else
      (B_Md_comma_21 a0 a0 q13.2)) := by
  refine (congrArg asU (if_pos ho)).trans ?_
  show asU (Lim 147 0 [some (.inr (.inr a0))] [] h) = _
  refine A_aload_n d_147_0 rfl ?_
  refine A_aload_n d_147_1 rfl ?_
  refine A_getfI rfl d_147_2 kF_6_124 (by decide) (fun v2 => ?_)
  refine A_ne0 (t := 21) d_147_5 (by decide) ?_ ?_
  · exact rfl
  · refine A_aload_n d_147_8 rfl ?_
    refine A_aload_n d_147_9 rfl ?_
    refine A_getfI rfl d_147_10 kF_6_113 (by decide) (fun v10 => ?_)
    refine A_call (t := 145) (way := 0) rfl d_147_13 rfl (cl kI_6_116 rfl) rfl (by decide) rfl (fun q13 => ?_)
    refine A_bipush d_147_16 (by decide) ?_
    refine A_eq (t := 25) d_147_18 (by decide) ?_ ?_
    · refine A_iconst d_147_25 (by decide) ?_
      exact rfl
    · exact rfl
set_option maxRecDepth 20000 in
theorem q_Md_isFigure (a0 : Nat) (h : mH) (ho : isO h a0 6 = true) : F_Md_isFigure a0 h =
  (gfd 6 19 h a0).bind fun v2 =>
  (F_Md_letterAt a0 v2 h).bind fun q5 =>
  (F_Md_in q5.1 48 57 q5.2).bind fun q15 =>
  rz q15.1 q15.2 := by
  refine (congrArg asI (if_pos ho)).trans ?_
  show asI (Lim 148 0 [some (.inr (.inr a0))] [] h) = _
  refine A_aload_n d_148_0 rfl ?_
  refine A_aload_n d_148_1 rfl ?_
  refine A_getfI rfl d_148_2 kF_6_113 (by decide) (fun v2 => ?_)
  refine A_call (t := 145) (way := 0) rfl d_148_5 rfl (cl kI_6_116 rfl) rfl (by decide) rfl (fun q5 => ?_)
  refine A_i2l d_148_8 ?_
  refine A_ldc2 d_148_9 kJ_6_120 ?_
  refine A_ldc2 d_148_12 kJ_6_122 ?_
  refine A_call (t := 135) (way := 2) rfl d_148_15 rfl (cl kI_6_106 rfl) rfl (by decide) rfl (fun q15 => ?_)
  exact A_iretb rfl d_148_18
set_option maxRecDepth 20000 in
theorem q_Md_type_49 (a0 : Nat) (h : mH) : B_Md_type_49 a0 h =
  B_Md_type_54 a0 1 h := by
  unfold B_Md_type_49
  refine A_iconst d_149_49 (by decide) ?_
  refine A_goto (t := 54) d_149_50 (by decide) ?_
  exact rfl
set_option maxRecDepth 20000 in
theorem q_Md_type_53 (a0 : Nat) (h : mH) : B_Md_type_53 a0 h =
  B_Md_type_54 a0 0 h := by
  unfold B_Md_type_53
  refine A_iconst d_149_53 (by decide) ?_
  exact rfl
set_option maxRecDepth 20000 in
theorem q_Md_type_54 (a0 : Nat) (s0 : Int) (h : mH) : B_Md_type_54 a0 s0 h =
  (gfd 6 21 h a0).bind fun v57 =>
  if v57 ≠ 0 then
    (B_Md_type_67 a0 s0 a0 h)
  else
    (if s0 ≠ 0 then
      (B_Md_type_72 a0 s0 0 a0 h)
    else
      (B_Md_type_67 a0 s0 a0 h)) := by
  unfold B_Md_type_54
  refine A_istore_n d_149_54 rfl ?_
  refine A_aload_n d_149_55 rfl ?_
  refine A_aload_n d_149_56 rfl ?_
  refine A_getfI rfl d_149_57 kF_6_124 (by decide) (fun v57 => ?_)
  refine A_ne0 (t := 67) d_149_60 (by decide) ?_ ?_
  · exact rfl
  · refine A_iload_n d_149_63 rfl ?_
    refine A_ne0 (t := 71) d_149_64 (by decide) ?_ ?_
    · refine A_iconst d_149_71 (by decide) ?_
      exact rfl
    · exact rfl
set_option maxRecDepth 20000 in
theorem q_Md_type_67 (a0 : Nat) (x1 : Int) (sa0 : Nat) (h : mH) : B_Md_type_67 a0 x1 sa0 h =
  B_Md_type_72 a0 x1 1 sa0 h := by
  unfold B_Md_type_67
  refine A_iconst d_149_67 (by decide) ?_
  refine A_goto (t := 72) d_149_68 (by decide) ?_
  exact rfl
set_option maxRecDepth 20000 in
theorem q_Md_type_72 (a0 : Nat) (x1 : Int) (s0 : Int) (sa1 : Nat) (h : mH) : B_Md_type_72 a0 x1 s0 sa1 h =
  ((bz s0).bind fun _ => pfd 6 21 h sa1 s0).bind fun h72 =>
  if x1 = 0 then
    (B_Md_type_94 a0 x1 0 h72)
  else
    ((gfd 6 19 h72 a0).bind fun v81 =>
    (F_Md_letterAt a0 v81 h72).bind fun q84 =>
    B_Md_type_94 a0 x1 (w32 (q84.1 - 48)) q84.2) := by
  unfold B_Md_type_72
  refine A_putfZ rfl d_149_72 kF_6_124 rfl (fun h72 => ?_)
  refine A_iload_n d_149_75 rfl ?_
  refine A_eq0 (t := 93) d_149_76 (by decide) ?_ ?_
  · refine A_iconst d_149_93 (by decide) ?_
    exact rfl
  · refine A_aload_n d_149_79 rfl ?_
    refine A_aload_n d_149_80 rfl ?_
    refine A_getfI rfl d_149_81 kF_6_113 (by decide) (fun v81 => ?_)
    refine A_call (t := 145) (way := 0) rfl d_149_84 rfl (cl kI_6_116 rfl) rfl (by decide) rfl (fun q84 => ?_)
    refine A_bipush d_149_87 (by decide) ?_
    refine A_isub d_149_89 ?_
    refine A_goto (t := 94) d_149_90 (by decide) ?_
    exact rfl
set_option maxRecDepth 20000 in
theorem q_Md_type_94 (a0 : Nat) (x1 : Int) (s0 : Int) (h : mH) : B_Md_type_94 a0 x1 s0 h =
  (gfd 6 13 h a0).bind fun v97 =>
  if s0 ≤ 5 then
    (B_Md_type_115 a0 x1 s0 0 v97 a0 h)
  else
    (B_Md_type_115 a0 x1 s0 (ishl 1 (w32 (s0 - 6))) v97 a0 h) := by
  unfold B_Md_type_94
  refine A_istore_n d_149_94 rfl ?_
  refine A_aload_n d_149_95 rfl ?_
  refine A_dup d_149_96 rfl ?_
  refine A_getfI rfl d_149_97 kF_6_87 (by decide) (fun v97 => ?_)
  refine A_iload_n d_149_100 rfl ?_
  refine A_iconst d_149_101 (by decide) ?_
  refine A_le (t := 114) d_149_102 (by decide) ?_ ?_
  · refine A_iconst d_149_114 (by decide) ?_
    exact rfl
  · refine A_iconst d_149_105 (by decide) ?_
    refine A_iload_n d_149_106 rfl ?_
    refine A_bipush d_149_107 (by decide) ?_
    refine A_isub d_149_109 ?_
    refine A_ishl d_149_110 ?_
    refine A_goto (t := 115) d_149_111 (by decide) ?_
    exact rfl
set_option maxRecDepth 20000 in
theorem q_Md_type_115 (a0 : Nat) (x1 : Int) (x2 : Int) (s0 : Int) (s1 : Int) (sa2 : Nat) (h : mH) : B_Md_type_115 a0 x1 x2 s0 s1 sa2 h =
  (pfd 6 13 h sa2 (ior s1 s0)).bind fun h116 =>
  (gfd 6 19 h116 a0).bind fun v121 =>
  (pfd 6 19 h116 a0 (w32 (v121 + 1))).bind fun h126 =>
  some (x2, h126) := by
  unfold B_Md_type_115
  refine A_ior d_149_115 ?_
  refine A_putfI rfl d_149_116 kF_6_87 rfl (fun h116 => ?_)
  refine A_aload_n d_149_119 rfl ?_
  refine A_dup d_149_120 rfl ?_
  refine A_getfI rfl d_149_121 kF_6_113 (by decide) (fun v121 => ?_)
  refine A_iconst d_149_124 (by decide) ?_
  refine A_iadd d_149_125 ?_
  refine A_putfI rfl d_149_126 kF_6_113 rfl (fun h126 => ?_)
  refine A_iload_n d_149_129 rfl ?_
  exact A_ireti rfl d_149_130
set_option maxRecDepth 20000 in
theorem q_Md_type (a0 : Nat) (h : mH) (ho : isO h a0 6 = true) : F_Md_type a0 h =
  (F_Md_isFigure a0 h).bind fun q1 =>
  if q1.1 = 0 then
    (B_Md_type_53 a0 q1.2)
  else
    ((gfd 6 19 q1.2 a0).bind fun v9 =>
    (F_Md_letterAt a0 v9 q1.2).bind fun q12 =>
    (F_Md_in (w32 (q12.1 - 48)) 2 5 q12.2).bind fun q25 =>
    if q25.1 = 0 then
      (B_Md_type_49 a0 q25.2)
    else
      ((gfd 6 19 q25.2 a0).bind fun v33 =>
      (F_Md_letterAt a0 v33 q25.2).bind fun q36 =>
      (gfd 6 6 q36.2 a0).bind fun v43 =>
      if v43 ≤ w32 (q36.1 - 50) then
        (B_Md_type_53 a0 q36.2)
      else
        (B_Md_type_49 a0 q36.2))) := by
  refine (congrArg asI (if_pos ho)).trans ?_
  show asI (Lim 149 0 [some (.inr (.inr a0)), none, none] [] h) = _
  refine A_aload_n d_149_0 rfl ?_
  refine A_call (t := 148) (way := 0) rfl d_149_1 rfl (cl kI_6_130 rfl) rfl (by decide) rfl (fun q1 => ?_)
  refine A_eq0 (t := 53) d_149_4 (by decide) ?_ ?_
  · exact rfl
  · refine A_aload_n d_149_7 rfl ?_
    refine A_aload_n d_149_8 rfl ?_
    refine A_getfI rfl d_149_9 kF_6_113 (by decide) (fun v9 => ?_)
    refine A_call (t := 145) (way := 0) rfl d_149_12 rfl (cl kI_6_116 rfl) rfl (by decide) rfl (fun q12 => ?_)
    refine A_bipush d_149_15 (by decide) ?_
    refine A_isub d_149_17 ?_
    refine A_i2l d_149_18 ?_
    refine A_ldc2 d_149_19 kJ_6_128 ?_
    refine A_ldc2 d_149_22 kJ_6_134 ?_
    refine A_call (t := 135) (way := 2) rfl d_149_25 rfl (cl kI_6_106 rfl) rfl (by decide) rfl (fun q25 => ?_)
    refine A_eq0 (t := 49) d_149_28 (by decide) ?_ ?_
    · exact rfl
    · refine A_aload_n d_149_31 rfl ?_
      refine A_aload_n d_149_32 rfl ?_
      refine A_getfI rfl d_149_33 kF_6_113 (by decide) (fun v33 => ?_)
      refine A_call (t := 145) (way := 0) rfl d_149_36 rfl (cl kI_6_116 rfl) rfl (by decide) rfl (fun q36 => ?_)
      refine A_bipush d_149_39 (by decide) ?_
      refine A_isub d_149_41 ?_
      refine A_aload_n d_149_42 rfl ?_
      refine A_getfI rfl d_149_43 kF_6_80 (by decide) (fun v43 => ?_)
      refine A_ge (t := 53) d_149_46 (by decide) ?_ ?_
      · exact rfl
      · exact rfl
set_option maxRecDepth 20000 in
theorem q_Md_sortItem_14 (a0 : Nat) (s0 : Int) (sa1 : Nat) (h : mH) : B_Md_sortItem_14 a0 s0 sa1 h =
  ((bz s0).bind fun _ => pfd 6 21 h sa1 s0).bind fun h14 =>
  B_Md_sortItem_19 a0 0 none h14 := by
  unfold B_Md_sortItem_14
  refine A_putfZ rfl d_150_14 kF_6_124 rfl (fun h14 => ?_)
  refine A_iconst d_150_17 (by decide) ?_
  refine A_istore_n d_150_18 rfl ?_
  exact rfl
set_option maxRecDepth 20000 in
theorem q_Md_sortItem_19 (a0 : Nat) (x1 : Int) (o2 : Option mV) (h : mH) : B_Md_sortItem_19 a0 x1 o2 h =
  (gfd 6 21 h a0).bind fun v20 =>
  if v20 ≠ 0 then
    (B_Md_sortItem_111 a0 x1 o2 h)
  else
    ((F_Md_isFigure a0 h).bind fun q27 =>
    if q27.1 = 0 then
      (B_Md_sortItem_111 a0 x1 o2 q27.2)
    else
      ((gfd 6 19 q27.2 a0).bind fun v35 =>
      (F_Md_letterAt a0 v35 q27.2).bind fun q38 =>
      if x1 = 3 then
        (B_Md_sortItem_64 a0 x1 (w32 (q38.1 - 48)) a0 q38.2)
      else
        (if 3 < w32 (q38.1 - 48) then
          (B_Md_sortItem_64 a0 x1 (w32 (q38.1 - 48)) a0 q38.2)
        else
          ((gfd 6 6 q38.2 a0).bind fun v58 =>
          if w32 (q38.1 - 48) ≤ v58 then
            (B_Md_sortItem_69 a0 x1 (w32 (q38.1 - 48)) 0 a0 q38.2)
          else
            (B_Md_sortItem_64 a0 x1 (w32 (q38.1 - 48)) a0 q38.2))))) := by
  unfold B_Md_sortItem_19
  refine A_aload_n d_150_19 rfl ?_
  refine A_getfI rfl d_150_20 kF_6_124 (by decide) (fun v20 => ?_)
  refine A_ne0 (t := 111) d_150_23 (by decide) ?_ ?_
  · exact rfl
  · refine A_aload_n d_150_26 rfl ?_
    refine A_call (t := 148) (way := 0) rfl d_150_27 rfl (cl kI_6_130 rfl) rfl (by decide) rfl (fun q27 => ?_)
    refine A_eq0 (t := 111) d_150_30 (by decide) ?_ ?_
    · exact rfl
    · refine A_aload_n d_150_33 rfl ?_
      refine A_aload_n d_150_34 rfl ?_
      refine A_getfI rfl d_150_35 kF_6_113 (by decide) (fun v35 => ?_)
      refine A_call (t := 145) (way := 0) rfl d_150_38 rfl (cl kI_6_116 rfl) rfl (by decide) rfl (fun q38 => ?_)
      refine A_bipush d_150_41 (by decide) ?_
      refine A_isub d_150_43 ?_
      refine A_istore_n d_150_44 rfl ?_
      refine A_aload_n d_150_45 rfl ?_
      refine A_iload_n d_150_46 rfl ?_
      refine A_iconst d_150_47 (by decide) ?_
      refine A_eq (t := 64) d_150_48 (by decide) ?_ ?_
      · exact rfl
      · refine A_iload_n d_150_51 rfl ?_
        refine A_iconst d_150_52 (by decide) ?_
        refine A_gt (t := 64) d_150_53 (by decide) ?_ ?_
        · exact rfl
        · refine A_iload_n d_150_56 rfl ?_
          refine A_aload_n d_150_57 rfl ?_
          refine A_getfI rfl d_150_58 kF_6_80 (by decide) (fun v58 => ?_)
          refine A_le (t := 68) d_150_61 (by decide) ?_ ?_
          · refine A_iconst d_150_68 (by decide) ?_
            exact rfl
          · exact rfl
set_option maxRecDepth 20000 in
theorem q_Md_sortItem_64 (a0 : Nat) (x1 : Int) (x2 : Int) (sa0 : Nat) (h : mH) : B_Md_sortItem_64 a0 x1 x2 sa0 h =
  B_Md_sortItem_69 a0 x1 x2 1 sa0 h := by
  unfold B_Md_sortItem_64
  refine A_iconst d_150_64 (by decide) ?_
  refine A_goto (t := 69) d_150_65 (by decide) ?_
  exact rfl
set_option maxRecDepth 20000 in
theorem q_Md_sortItem_69 (a0 : Nat) (x1 : Int) (x2 : Int) (s0 : Int) (sa1 : Nat) (h : mH) : B_Md_sortItem_69 a0 x1 x2 s0 sa1 h =
  ((bz s0).bind fun _ => pfd 6 21 h sa1 s0).bind fun h69 =>
  (gfd 6 21 h69 a0).bind fun v73 =>
  if v73 ≠ 0 then
    (B_Md_sortItem_95 a0 x1 x2 h69)
  else
    ((gfd 6 8 h69 a0).bind fun v80 =>
    (gfd 6 6 h69 a0).bind fun v85 =>
    (ast h69 v80.toNat (w32 ((w32 (3 * v85)) + x1)) (w32 (x2 + 1))).bind fun h94 =>
    B_Md_sortItem_95 a0 x1 x2 h94) := by
  unfold B_Md_sortItem_69
  refine A_putfZ rfl d_150_69 kF_6_124 rfl (fun h69 => ?_)
  refine A_aload_n d_150_72 rfl ?_
  refine A_getfI rfl d_150_73 kF_6_124 (by decide) (fun v73 => ?_)
  refine A_ne0 (t := 95) d_150_76 (by decide) ?_ ?_
  · exact rfl
  · refine A_aload_n d_150_79 rfl ?_
    refine A_getfA rfl d_150_80 kF_6_25 (fun v80 => ?_)
    refine A_iconst d_150_83 (by decide) ?_
    refine A_aload_n d_150_84 rfl ?_
    refine A_getfI rfl d_150_85 kF_6_80 (by decide) (fun v85 => ?_)
    refine A_imul d_150_88 ?_
    refine A_iload_n d_150_89 rfl ?_
    refine A_iadd d_150_90 ?_
    refine A_iload_n d_150_91 rfl ?_
    refine A_iconst d_150_92 (by decide) ?_
    refine A_iadd d_150_93 ?_
    refine A_iast rfl d_150_94 (fun h94 => ?_)
    exact rfl
set_option maxRecDepth 20000 in
theorem q_Md_sortItem_95 (a0 : Nat) (x1 : Int) (x2 : Int) (h : mH) : B_Md_sortItem_95 a0 x1 x2 h =
  (gfd 6 19 h a0).bind fun v100 =>
  (pfd 6 19 h a0 (w32 (v100 + 1))).bind fun h105 =>
  B_Md_sortItem_19 a0 (w32 (x1 + 1)) (some (.inl x2)) h105 := by
  unfold B_Md_sortItem_95
  refine A_iinc d_150_95 (by decide) rfl rfl ?_
  refine A_aload_n d_150_98 rfl ?_
  refine A_dup d_150_99 rfl ?_
  refine A_getfI rfl d_150_100 kF_6_113 (by decide) (fun v100 => ?_)
  refine A_iconst d_150_103 (by decide) ?_
  refine A_iadd d_150_104 ?_
  refine A_putfI rfl d_150_105 kF_6_113 rfl (fun h105 => ?_)
  refine A_goto (t := 19) d_150_108 (by decide) ?_
  exact rfl
set_option maxRecDepth 20000 in
theorem q_Md_sortItem_111 (a0 : Nat) (x1 : Int) (o2 : Option mV) (h : mH) : B_Md_sortItem_111 a0 x1 o2 h =
  (gfd 6 21 h a0).bind fun v113 =>
  if v113 ≠ 0 then
    (B_Md_sortItem_123 a0 x1 o2 a0 h)
  else
    (if x1 ≠ 0 then
      (B_Md_sortItem_128 a0 x1 o2 0 a0 h)
    else
      (B_Md_sortItem_123 a0 x1 o2 a0 h)) := by
  unfold B_Md_sortItem_111
  refine A_aload_n d_150_111 rfl ?_
  refine A_aload_n d_150_112 rfl ?_
  refine A_getfI rfl d_150_113 kF_6_124 (by decide) (fun v113 => ?_)
  refine A_ne0 (t := 123) d_150_116 (by decide) ?_ ?_
  · exact rfl
  · refine A_iload_n d_150_119 rfl ?_
    refine A_ne0 (t := 127) d_150_120 (by decide) ?_ ?_
    · refine A_iconst d_150_127 (by decide) ?_
      exact rfl
    · exact rfl
set_option maxRecDepth 20000 in
theorem q_Md_sortItem_123 (a0 : Nat) (x1 : Int) (o2 : Option mV) (sa0 : Nat) (h : mH) : B_Md_sortItem_123 a0 x1 o2 sa0 h =
  B_Md_sortItem_128 a0 x1 o2 1 sa0 h := by
  unfold B_Md_sortItem_123
  refine A_iconst d_150_123 (by decide) ?_
  refine A_goto (t := 128) d_150_124 (by decide) ?_
  exact rfl
set_option maxRecDepth 20000 in
theorem q_Md_sortItem_128 (a0 : Nat) (x1 : Int) (o2 : Option mV) (s0 : Int) (sa1 : Nat) (h : mH) : B_Md_sortItem_128 a0 x1 o2 s0 sa1 h =
  ((bz s0).bind fun _ => pfd 6 21 h sa1 s0).bind fun h128 =>
  (gfd 6 21 h128 a0).bind fun v132 =>
  if v132 ≠ 0 then
    (some h128)
  else
    ((gfd 6 7 h128 a0).bind fun v139 =>
    (gfd 6 6 h128 a0).bind fun v143 =>
    (ast h128 v139.toNat v143 x1).bind fun h147 =>
    (gfd 6 6 h147 a0).bind fun v150 =>
    (pfd 6 6 h147 a0 (w32 (v150 + 1))).bind fun h155 =>
    some h155) := by
  unfold B_Md_sortItem_128
  refine A_putfZ rfl d_150_128 kF_6_124 rfl (fun h128 => ?_)
  refine A_aload_n d_150_131 rfl ?_
  refine A_getfI rfl d_150_132 kF_6_124 (by decide) (fun v132 => ?_)
  refine A_ne0 (t := 158) d_150_135 (by decide) ?_ ?_
  · exact A_ret rfl d_150_158
  · refine A_aload_n d_150_138 rfl ?_
    refine A_getfA rfl d_150_139 kF_6_22 (fun v139 => ?_)
    refine A_aload_n d_150_142 rfl ?_
    refine A_getfI rfl d_150_143 kF_6_80 (by decide) (fun v143 => ?_)
    refine A_iload_n d_150_146 rfl ?_
    refine A_iast rfl d_150_147 (fun h147 => ?_)
    refine A_aload_n d_150_148 rfl ?_
    refine A_dup d_150_149 rfl ?_
    refine A_getfI rfl d_150_150 kF_6_80 (by decide) (fun v150 => ?_)
    refine A_iconst d_150_153 (by decide) ?_
    refine A_iadd d_150_154 ?_
    refine A_putfI rfl d_150_155 kF_6_80 rfl (fun h155 => ?_)
    exact A_ret rfl d_150_158
set_option maxRecDepth 20000 in
theorem q_Md_sortItem (a0 : Nat) (h : mH) (ho : isO h a0 6 = true) : F_Md_sortItem a0 h =
  (gfd 6 6 h a0).bind fun v2 =>
  if v2 ≠ 4 then
    (B_Md_sortItem_14 a0 0 a0 h)
  else
    (B_Md_sortItem_14 a0 1 a0 h) := by
  refine (congrArg asU (if_pos ho)).trans ?_
  show asU (Lim 150 0 [some (.inr (.inr a0)), none, none] [] h) = _
  refine A_aload_n d_150_0 rfl ?_
  refine A_aload_n d_150_1 rfl ?_
  refine A_getfI rfl d_150_2 kF_6_80 (by decide) (fun v2 => ?_)
  refine A_iconst d_150_5 (by decide) ?_
  refine A_ne (t := 13) d_150_6 (by decide) ?_ ?_
  · refine A_iconst d_150_13 (by decide) ?_
    exact rfl
  · refine A_iconst d_150_9 (by decide) ?_
    refine A_goto (t := 14) d_150_10 (by decide) ?_
    exact rfl
set_option maxRecDepth 20000 in
theorem q_Md_labelItem_14 (a0 : Nat) (s0 : Int) (sa1 : Nat) (h : mH) : B_Md_labelItem_14 a0 s0 sa1 h =
  ((bz s0).bind fun _ => pfd 6 21 h sa1 s0).bind fun h14 =>
  (gfd 6 21 h14 a0).bind fun v18 =>
  if v18 = 0 then
    (B_Md_labelItem_27 a0 0 h14)
  else
    (some h14) := by
  unfold B_Md_labelItem_14
  refine A_putfZ rfl d_151_14 kF_6_124 rfl (fun h14 => ?_)
  refine A_aload_n d_151_17 rfl ?_
  refine A_getfI rfl d_151_18 kF_6_124 (by decide) (fun v18 => ?_)
  refine A_eq0 (t := 25) d_151_21 (by decide) ?_ ?_
  · refine A_iconst d_151_25 (by decide) ?_
    refine A_istore_n d_151_26 rfl ?_
    exact rfl
  · exact A_ret rfl d_151_24
set_option maxRecDepth 20000 in
theorem q_Md_labelItem_27 (a0 : Nat) (x1 : Int) (h : mH) : B_Md_labelItem_27 a0 x1 h =
  if 4 ≤ x1 then
    ((F_Md_comma a0 h).bind fun h57 =>
    B_Md_labelItem_62 a0 0 none h57)
  else
    ((gfd 6 12 h a0).bind fun v33 =>
    (gfd 6 9 h a0).bind fun v39 =>
    (F_Md_type a0 h).bind fun q46 =>
    (ast q46.2 v33.toNat (w32 ((w32 (30 * v39)) + x1)) q46.1).bind fun h49 =>
    B_Md_labelItem_27 a0 (w32 (x1 + 1)) h49) := by
  unfold B_Md_labelItem_27
  refine A_iload_n d_151_27 rfl ?_
  refine A_iconst d_151_28 (by decide) ?_
  refine A_ge (t := 56) d_151_29 (by decide) ?_ ?_
  · refine A_aload_n d_151_56 rfl ?_
    refine A_callU (t := 147) (way := 0) rfl d_151_57 rfl (cl kI_6_140 rfl) rfl rfl rfl (fun h57 => ?_)
    refine A_iconst d_151_60 (by decide) ?_
    refine A_istore_n d_151_61 rfl ?_
    exact rfl
  · refine A_aload_n d_151_32 rfl ?_
    refine A_getfA rfl d_151_33 kF_6_34 (fun v33 => ?_)
    refine A_bipush d_151_36 (by decide) ?_
    refine A_aload_n d_151_38 rfl ?_
    refine A_getfI rfl d_151_39 kF_6_84 (by decide) (fun v39 => ?_)
    refine A_imul d_151_42 ?_
    refine A_iload_n d_151_43 rfl ?_
    refine A_iadd d_151_44 ?_
    refine A_aload_n d_151_45 rfl ?_
    refine A_call (t := 149) (way := 0) rfl d_151_46 rfl (cl kI_6_136 rfl) rfl (by decide) rfl (fun q46 => ?_)
    refine A_iast rfl d_151_49 (fun h49 => ?_)
    refine A_iinc d_151_50 (by decide) rfl rfl ?_
    refine A_goto (t := 27) d_151_53 (by decide) ?_
    exact rfl
set_option maxRecDepth 20000 in
theorem q_Md_labelItem_62 (a0 : Nat) (x1 : Int) (o2 : Option mV) (h : mH) : B_Md_labelItem_62 a0 x1 o2 h =
  (gfd 6 21 h a0).bind fun v63 =>
  if v63 ≠ 0 then
    (B_Md_labelItem_122 a0 x1 o2 h)
  else
    ((F_Md_isFigure a0 h).bind fun q70 =>
    if q70.1 = 0 then
      (B_Md_labelItem_122 a0 x1 o2 q70.2)
    else
      (if x1 ≠ 3 then
        (B_Md_labelItem_87 a0 x1 o2 0 a0 q70.2)
      else
        (B_Md_labelItem_87 a0 x1 o2 1 a0 q70.2))) := by
  unfold B_Md_labelItem_62
  refine A_aload_n d_151_62 rfl ?_
  refine A_getfI rfl d_151_63 kF_6_124 (by decide) (fun v63 => ?_)
  refine A_ne0 (t := 122) d_151_66 (by decide) ?_ ?_
  · exact rfl
  · refine A_aload_n d_151_69 rfl ?_
    refine A_call (t := 148) (way := 0) rfl d_151_70 rfl (cl kI_6_130 rfl) rfl (by decide) rfl (fun q70 => ?_)
    refine A_eq0 (t := 122) d_151_73 (by decide) ?_ ?_
    · exact rfl
    · refine A_aload_n d_151_76 rfl ?_
      refine A_iload_n d_151_77 rfl ?_
      refine A_iconst d_151_78 (by decide) ?_
      refine A_ne (t := 86) d_151_79 (by decide) ?_ ?_
      · refine A_iconst d_151_86 (by decide) ?_
        exact rfl
      · refine A_iconst d_151_82 (by decide) ?_
        refine A_goto (t := 87) d_151_83 (by decide) ?_
        exact rfl
set_option maxRecDepth 20000 in
theorem q_Md_labelItem_87 (a0 : Nat) (x1 : Int) (o2 : Option mV) (s0 : Int) (sa1 : Nat) (h : mH) : B_Md_labelItem_87 a0 x1 o2 s0 sa1 h =
  ((bz s0).bind fun _ => pfd 6 21 h sa1 s0).bind fun h87 =>
  (F_Md_type a0 h87).bind fun q91 =>
  (gfd 6 21 q91.2 a0).bind fun v96 =>
  if v96 ≠ 0 then
    (B_Md_labelItem_116 a0 x1 q91.1 q91.2)
  else
    ((gfd 6 11 q91.2 a0).bind fun v103 =>
    (gfd 6 9 q91.2 a0).bind fun v108 =>
    (ast q91.2 v103.toNat (w32 ((w32 (3 * v108)) + x1)) q91.1).bind fun h115 =>
    B_Md_labelItem_116 a0 x1 q91.1 h115) := by
  unfold B_Md_labelItem_87
  refine A_putfZ rfl d_151_87 kF_6_124 rfl (fun h87 => ?_)
  refine A_aload_n d_151_90 rfl ?_
  refine A_call (t := 149) (way := 0) rfl d_151_91 rfl (cl kI_6_136 rfl) rfl (by decide) rfl (fun q91 => ?_)
  refine A_istore_n d_151_94 rfl ?_
  refine A_aload_n d_151_95 rfl ?_
  refine A_getfI rfl d_151_96 kF_6_124 (by decide) (fun v96 => ?_)
  refine A_ne0 (t := 116) d_151_99 (by decide) ?_ ?_
  · exact rfl
  · refine A_aload_n d_151_102 rfl ?_
    refine A_getfA rfl d_151_103 kF_6_31 (fun v103 => ?_)
    refine A_iconst d_151_106 (by decide) ?_
    refine A_aload_n d_151_107 rfl ?_
    refine A_getfI rfl d_151_108 kF_6_84 (by decide) (fun v108 => ?_)
    refine A_imul d_151_111 ?_
    refine A_iload_n d_151_112 rfl ?_
    refine A_iadd d_151_113 ?_
    refine A_iload_n d_151_114 rfl ?_
    refine A_iast rfl d_151_115 (fun h115 => ?_)
    exact rfl
set_option maxRecDepth 20000 in
theorem q_Md_labelItem_116 (a0 : Nat) (x1 : Int) (x2 : Int) (h : mH) : B_Md_labelItem_116 a0 x1 x2 h =
  B_Md_labelItem_62 a0 (w32 (x1 + 1)) (some (.inl x2)) h := by
  unfold B_Md_labelItem_116
  refine A_iinc d_151_116 (by decide) rfl rfl ?_
  refine A_goto (t := 62) d_151_119 (by decide) ?_
  exact rfl
set_option maxRecDepth 20000 in
theorem q_Md_labelItem_122 (a0 : Nat) (x1 : Int) (o2 : Option mV) (h : mH) : B_Md_labelItem_122 a0 x1 o2 h =
  (F_Md_comma a0 h).bind fun h123 =>
  (gfd 6 12 h123 a0).bind fun v127 =>
  (gfd 6 9 h123 a0).bind fun v133 =>
  (F_Md_number a0 0 1 h123).bind fun q142 =>
  (ast q142.2 v127.toNat (w32 ((w32 (30 * v133)) + 4)) q142.1).bind fun h145 =>
  (gfd 6 10 h145 a0).bind fun v147 =>
  (gfd 6 9 h145 a0).bind fun v151 =>
  (ast h145 v147.toNat v151 x1).bind fun h155 =>
  (gfd 6 9 h155 a0).bind fun v158 =>
  (pfd 6 9 h155 a0 (w32 (v158 + 1))).bind fun h163 =>
  some h163 := by
  unfold B_Md_labelItem_122
  refine A_aload_n d_151_122 rfl ?_
  refine A_callU (t := 147) (way := 0) rfl d_151_123 rfl (cl kI_6_140 rfl) rfl rfl rfl (fun h123 => ?_)
  refine A_aload_n d_151_126 rfl ?_
  refine A_getfA rfl d_151_127 kF_6_34 (fun v127 => ?_)
  refine A_bipush d_151_130 (by decide) ?_
  refine A_aload_n d_151_132 rfl ?_
  refine A_getfI rfl d_151_133 kF_6_84 (by decide) (fun v133 => ?_)
  refine A_imul d_151_136 ?_
  refine A_iconst d_151_137 (by decide) ?_
  refine A_iadd d_151_138 ?_
  refine A_aload_n d_151_139 rfl ?_
  refine A_iconst d_151_140 (by decide) ?_
  refine A_iconst d_151_141 (by decide) ?_
  refine A_call (t := 146) (way := 0) rfl d_151_142 rfl (cl kI_6_143 rfl) rfl (by decide) rfl (fun q142 => ?_)
  refine A_iast rfl d_151_145 (fun h145 => ?_)
  refine A_aload_n d_151_146 rfl ?_
  refine A_getfA rfl d_151_147 kF_6_28 (fun v147 => ?_)
  refine A_aload_n d_151_150 rfl ?_
  refine A_getfI rfl d_151_151 kF_6_84 (by decide) (fun v151 => ?_)
  refine A_iload_n d_151_154 rfl ?_
  refine A_iast rfl d_151_155 (fun h155 => ?_)
  refine A_aload_n d_151_156 rfl ?_
  refine A_dup d_151_157 rfl ?_
  refine A_getfI rfl d_151_158 kF_6_84 (by decide) (fun v158 => ?_)
  refine A_iconst d_151_161 (by decide) ?_
  refine A_iadd d_151_162 ?_
  refine A_putfI rfl d_151_163 kF_6_84 rfl (fun h163 => ?_)
  exact A_ret rfl d_151_166
set_option maxRecDepth 20000 in
theorem q_Md_labelItem (a0 : Nat) (h : mH) (ho : isO h a0 6 = true) : F_Md_labelItem a0 h =
  (gfd 6 9 h a0).bind fun v2 =>
  if v2 ≠ 4 then
    (B_Md_labelItem_14 a0 0 a0 h)
  else
    (B_Md_labelItem_14 a0 1 a0 h) := by
  refine (congrArg asU (if_pos ho)).trans ?_
  show asU (Lim 151 0 [some (.inr (.inr a0)), none, none] [] h) = _
  refine A_aload_n d_151_0 rfl ?_
  refine A_aload_n d_151_1 rfl ?_
  refine A_getfI rfl d_151_2 kF_6_84 (by decide) (fun v2 => ?_)
  refine A_iconst d_151_5 (by decide) ?_
  refine A_ne (t := 13) d_151_6 (by decide) ?_ ?_
  · refine A_iconst d_151_13 (by decide) ?_
    exact rfl
  · refine A_iconst d_151_9 (by decide) ?_
    refine A_goto (t := 14) d_151_10 (by decide) ?_
    exact rfl
set_option maxRecDepth 20000 in
theorem q_Md_codeItem_29 (a0 : Nat) (sa0 : Nat) (h : mH) : B_Md_codeItem_29 a0 sa0 h =
  B_Md_codeItem_34 a0 1 sa0 h := by
  unfold B_Md_codeItem_29
  refine A_iconst d_152_29 (by decide) ?_
  refine A_goto (t := 34) d_152_30 (by decide) ?_
  exact rfl
set_option maxRecDepth 20000 in
theorem q_Md_codeItem_34 (a0 : Nat) (s0 : Int) (sa1 : Nat) (h : mH) : B_Md_codeItem_34 a0 s0 sa1 h =
  ((bz s0).bind fun _ => pfd 6 21 h sa1 s0).bind fun h34 =>
  (F_Md_number a0 0 13 h34).bind fun q41 =>
  (F_Md_comma a0 q41.2).bind fun h46 =>
  (F_Md_number a0 0 99 h46).bind fun q53 =>
  (F_Md_comma a0 q53.2).bind fun h58 =>
  (F_Md_number a0 0 99 h58).bind fun q65 =>
  (F_Md_comma a0 q65.2).bind fun h70 =>
  (F_Md_number a0 0 99 h70).bind fun q77 =>
  (gfd 6 21 q77.2 a0).bind fun v84 =>
  if v84 ≠ 0 then
    (B_Md_codeItem_106 a0 q41.1 q53.1 q65.1 q77.1 a0 q77.2)
  else
    ((gfd 6 6 q77.2 a0).bind fun v96 =>
    (F_Md_mayBe q41.1 q53.1 q65.1 q77.1 v96 4 q77.2).bind fun q100 =>
    if q100.1 ≠ 0 then
      (B_Md_codeItem_111 a0 q41.1 q53.1 q65.1 q77.1 0 a0 q100.2)
    else
      (B_Md_codeItem_106 a0 q41.1 q53.1 q65.1 q77.1 a0 q100.2)) := by
  unfold B_Md_codeItem_34
  refine A_putfZ rfl d_152_34 kF_6_124 rfl (fun h34 => ?_)
  refine A_aload_n d_152_37 rfl ?_
  refine A_iconst d_152_38 (by decide) ?_
  refine A_bipush d_152_39 (by decide) ?_
  refine A_call (t := 146) (way := 0) rfl d_152_41 rfl (cl kI_6_143 rfl) rfl (by decide) rfl (fun q41 => ?_)
  refine A_istore_n d_152_44 rfl ?_
  refine A_aload_n d_152_45 rfl ?_
  refine A_callU (t := 147) (way := 0) rfl d_152_46 rfl (cl kI_6_140 rfl) rfl rfl rfl (fun h46 => ?_)
  refine A_aload_n d_152_49 rfl ?_
  refine A_iconst d_152_50 (by decide) ?_
  refine A_bipush d_152_51 (by decide) ?_
  refine A_call (t := 146) (way := 0) rfl d_152_53 rfl (cl kI_6_143 rfl) rfl (by decide) rfl (fun q53 => ?_)
  refine A_istore_n d_152_56 rfl ?_
  refine A_aload_n d_152_57 rfl ?_
  refine A_callU (t := 147) (way := 0) rfl d_152_58 rfl (cl kI_6_140 rfl) rfl rfl rfl (fun h58 => ?_)
  refine A_aload_n d_152_61 rfl ?_
  refine A_iconst d_152_62 (by decide) ?_
  refine A_bipush d_152_63 (by decide) ?_
  refine A_call (t := 146) (way := 0) rfl d_152_65 rfl (cl kI_6_143 rfl) rfl (by decide) rfl (fun q65 => ?_)
  refine A_istore_n d_152_68 rfl ?_
  refine A_aload_n d_152_69 rfl ?_
  refine A_callU (t := 147) (way := 0) rfl d_152_70 rfl (cl kI_6_140 rfl) rfl rfl rfl (fun h70 => ?_)
  refine A_aload_n d_152_73 rfl ?_
  refine A_iconst d_152_74 (by decide) ?_
  refine A_bipush d_152_75 (by decide) ?_
  refine A_call (t := 146) (way := 0) rfl d_152_77 rfl (cl kI_6_143 rfl) rfl (by decide) rfl (fun q77 => ?_)
  refine A_istore d_152_80 rfl ?_
  refine A_aload_n d_152_82 rfl ?_
  refine A_aload_n d_152_83 rfl ?_
  refine A_getfI rfl d_152_84 kF_6_124 (by decide) (fun v84 => ?_)
  refine A_ne0 (t := 106) d_152_87 (by decide) ?_ ?_
  · exact rfl
  · refine A_iload_n d_152_90 rfl ?_
    refine A_iload_n d_152_91 rfl ?_
    refine A_iload_n d_152_92 rfl ?_
    refine A_iload d_152_93 rfl ?_
    refine A_aload_n d_152_95 rfl ?_
    refine A_getfI rfl d_152_96 kF_6_80 (by decide) (fun v96 => ?_)
    refine A_iconst d_152_99 (by decide) ?_
    refine A_call (t := 154) (way := 2) rfl d_152_100 rfl (cl kI_6_147 rfl) rfl (by decide) rfl (fun q100 => ?_)
    refine A_ne0 (t := 110) d_152_103 (by decide) ?_ ?_
    · refine A_iconst d_152_110 (by decide) ?_
      exact rfl
    · exact rfl
set_option maxRecDepth 20000 in
theorem q_Md_codeItem_106 (a0 : Nat) (x1 : Int) (x2 : Int) (x3 : Int) (x4 : Int) (sa0 : Nat) (h : mH) : B_Md_codeItem_106 a0 x1 x2 x3 x4 sa0 h =
  B_Md_codeItem_111 a0 x1 x2 x3 x4 1 sa0 h := by
  unfold B_Md_codeItem_106
  refine A_iconst d_152_106 (by decide) ?_
  refine A_goto (t := 111) d_152_107 (by decide) ?_
  exact rfl
set_option maxRecDepth 20000 in
theorem q_Md_codeItem_111 (a0 : Nat) (x1 : Int) (x2 : Int) (x3 : Int) (x4 : Int) (s0 : Int) (sa1 : Nat) (h : mH) : B_Md_codeItem_111 a0 x1 x2 x3 x4 s0 sa1 h =
  ((bz s0).bind fun _ => pfd 6 21 h sa1 s0).bind fun h111 =>
  (gfd 6 21 h111 a0).bind fun v115 =>
  if v115 ≠ 0 then
    (some h111)
  else
    ((gfd 6 13 h111 a0).bind fun v123 =>
    (F_Md_labelsIn x1 x2 x3 h111).bind fun q129 =>
    (pfd 6 13 q129.2 a0 (ior v123 q129.1)).bind fun h133 =>
    (F_Md_tells a0 x1 x2 x3 x4 h133).bind fun h142 =>
    some h142) := by
  unfold B_Md_codeItem_111
  refine A_putfZ rfl d_152_111 kF_6_124 rfl (fun h111 => ?_)
  refine A_aload_n d_152_114 rfl ?_
  refine A_getfI rfl d_152_115 kF_6_124 (by decide) (fun v115 => ?_)
  refine A_ne0 (t := 145) d_152_118 (by decide) ?_ ?_
  · exact A_ret rfl d_152_145
  · refine A_aload_n d_152_121 rfl ?_
    refine A_dup d_152_122 rfl ?_
    refine A_getfI rfl d_152_123 kF_6_87 (by decide) (fun v123 => ?_)
    refine A_iload_n d_152_126 rfl ?_
    refine A_iload_n d_152_127 rfl ?_
    refine A_iload_n d_152_128 rfl ?_
    refine A_call (t := 153) (way := 2) rfl d_152_129 rfl (cl kI_6_151 rfl) rfl (by decide) rfl (fun q129 => ?_)
    refine A_ior d_152_132 ?_
    refine A_putfI rfl d_152_133 kF_6_87 rfl (fun h133 => ?_)
    refine A_aload_n d_152_136 rfl ?_
    refine A_iload_n d_152_137 rfl ?_
    refine A_iload_n d_152_138 rfl ?_
    refine A_iload_n d_152_139 rfl ?_
    refine A_iload d_152_140 rfl ?_
    refine A_callU (t := 141) (way := 0) rfl d_152_142 rfl (cl kI_6_73 rfl) rfl rfl rfl (fun h142 => ?_)
    exact A_ret rfl d_152_145
set_option maxRecDepth 20000 in
theorem q_Md_codeItem (a0 : Nat) (h : mH) (ho : isO h a0 6 = true) : F_Md_codeItem a0 h =
  (gfd 6 9 h a0).bind fun v2 =>
  if v2 = 0 then
    (B_Md_codeItem_29 a0 a0 h)
  else
    ((gfd 6 12 h a0).bind fun v9 =>
    (gfd 6 9 h a0).bind fun v15 =>
    (ald 10 h v9.toNat (w32 ((w32 (30 * (w32 (v15 - 1)))) + 5))).bind fun v23 =>
    if v23 ≠ 6 then
      (B_Md_codeItem_34 a0 0 a0 h)
    else
      (B_Md_codeItem_29 a0 a0 h)) := by
  refine (congrArg asU (if_pos ho)).trans ?_
  show asU (Lim 152 0 [some (.inr (.inr a0)), none, none, none, none] [] h) = _
  refine A_aload_n d_152_0 rfl ?_
  refine A_aload_n d_152_1 rfl ?_
  refine A_getfI rfl d_152_2 kF_6_84 (by decide) (fun v2 => ?_)
  refine A_eq0 (t := 29) d_152_5 (by decide) ?_ ?_
  · exact rfl
  · refine A_aload_n d_152_8 rfl ?_
    refine A_getfA rfl d_152_9 kF_6_34 (fun v9 => ?_)
    refine A_bipush d_152_12 (by decide) ?_
    refine A_aload_n d_152_14 rfl ?_
    refine A_getfI rfl d_152_15 kF_6_84 (by decide) (fun v15 => ?_)
    refine A_iconst d_152_18 (by decide) ?_
    refine A_isub d_152_19 ?_
    refine A_imul d_152_20 ?_
    refine A_iconst d_152_21 (by decide) ?_
    refine A_iadd d_152_22 ?_
    refine A_iald rfl d_152_23 (fun v23 => ?_)
    refine A_bipush d_152_24 (by decide) ?_
    refine A_ne (t := 33) d_152_26 (by decide) ?_ ?_
    · refine A_iconst d_152_33 (by decide) ?_
      exact rfl
    · exact rfl
set_option maxRecDepth 20000 in
theorem q_Md_labelsIn_24 (x0 : Int) (x1 : Int) (x2 : Int) (h : mH) : B_Md_labelsIn_24 x0 x1 x2 h =
  some (ishl 1 x2, h) := by
  unfold B_Md_labelsIn_24
  refine A_iconst d_153_24 (by decide) ?_
  refine A_iload_n d_153_25 rfl ?_
  refine A_ishl d_153_26 ?_
  refine A_goto (t := 47) d_153_27 (by decide) ?_
  exact A_ireti rfl d_153_47
set_option maxRecDepth 20000 in
theorem q_Md_labelsIn (x0 : Int) (x1 : Int) (x2 : Int) (h : mH) : F_Md_labelsIn x0 x1 x2 h =
  if x0 ≠ 9 then
    (if x0 = 8 then
      (B_Md_labelsIn_24 x0 x1 x2 h)
    else
      (if x0 ≠ 10 then
        (if x0 ≠ 11 then
          (some (0, h))
        else
          (some (ior (ishl 1 x1) (ishl 1 x2), h)))
      else
        (B_Md_labelsIn_24 x0 x1 x2 h)))
  else
    (some (ishl 1 x1, h)) := by
  refine (congrArg asI (if_pos rfl)).trans ?_
  show asI (Lim 153 0 [some (.inl x0), some (.inl x1), some (.inl x2)] [] h) = _
  refine A_iload_n d_153_0 rfl ?_
  refine A_bipush d_153_1 (by decide) ?_
  refine A_ne (t := 12) d_153_3 (by decide) ?_ ?_
  · refine A_iload_n d_153_12 rfl ?_
    refine A_bipush d_153_13 (by decide) ?_
    refine A_eq (t := 24) d_153_15 (by decide) ?_ ?_
    · exact rfl
    · refine A_iload_n d_153_18 rfl ?_
      refine A_bipush d_153_19 (by decide) ?_
      refine A_ne (t := 30) d_153_21 (by decide) ?_ ?_
      · refine A_iload_n d_153_30 rfl ?_
        refine A_bipush d_153_31 (by decide) ?_
        refine A_ne (t := 46) d_153_33 (by decide) ?_ ?_
        · refine A_iconst d_153_46 (by decide) ?_
          exact A_ireti rfl d_153_47
        · refine A_iconst d_153_36 (by decide) ?_
          refine A_iload_n d_153_37 rfl ?_
          refine A_ishl d_153_38 ?_
          refine A_iconst d_153_39 (by decide) ?_
          refine A_iload_n d_153_40 rfl ?_
          refine A_ishl d_153_41 ?_
          refine A_ior d_153_42 ?_
          refine A_goto (t := 47) d_153_43 (by decide) ?_
          exact A_ireti rfl d_153_47
      · exact rfl
  · refine A_iconst d_153_6 (by decide) ?_
    refine A_iload_n d_153_7 rfl ?_
    refine A_ishl d_153_8 ?_
    refine A_goto (t := 47) d_153_9 (by decide) ?_
    exact A_ireti rfl d_153_47
set_option maxRecDepth 20000 in
theorem q_Md_mayBe_12 (x0 : Int) (x1 : Int) (x2 : Int) (x3 : Int) (x4 : Int) (x5 : Int) (h : mH) : B_Md_mayBe_12 x0 x1 x2 x3 x4 x5 h =
  B_Md_mayBe_30 x0 x1 x2 x3 x4 x5 (w32 (x5 - 1)) h := by
  unfold B_Md_mayBe_12
  refine A_iload d_154_12 rfl ?_
  refine A_iconst d_154_14 (by decide) ?_
  refine A_isub d_154_15 ?_
  refine A_goto (t := 30) d_154_16 (by decide) ?_
  exact rfl
set_option maxRecDepth 20000 in
theorem q_Md_mayBe_30 (x0 : Int) (x1 : Int) (x2 : Int) (x3 : Int) (x4 : Int) (x5 : Int) (s0 : Int) (h : mH) : B_Md_mayBe_30 x0 x1 x2 x3 x4 x5 s0 h =
  if x0 = 0 then
    (B_Md_mayBe_46 x0 x1 x2 x3 x4 x5 s0 h)
  else
    (if x0 = 2 then
      (B_Md_mayBe_46 x0 x1 x2 x3 x4 x5 s0 h)
    else
      (if x0 ≠ 5 then
        (if x0 ≠ 1 then
          (if x0 ≠ 3 then
            (if x0 ≠ 4 then
              (if x0 = 8 then
                (B_Md_mayBe_99 x0 x1 x2 x3 x4 x5 s0 h)
              else
                (if x0 = 10 then
                  (B_Md_mayBe_99 x0 x1 x2 x3 x4 x5 s0 h)
                else
                  (if x0 ≠ 11 then
                    (B_Md_mayBe_107 x0 x1 x2 x3 x4 x5 s0 0 h)
                  else
                    (B_Md_mayBe_99 x0 x1 x2 x3 x4 x5 s0 h))))
            else
              (B_Md_mayBe_107 x0 x1 x2 x3 x4 x5 s0 2 h))
          else
            (B_Md_mayBe_107 x0 x1 x2 x3 x4 x5 s0 (w32 (x4 - 1)) h))
        else
          (B_Md_mayBe_107 x0 x1 x2 x3 x4 x5 s0 99 h))
      else
        (B_Md_mayBe_46 x0 x1 x2 x3 x4 x5 s0 h))) := by
  unfold B_Md_mayBe_30
  refine A_istore d_154_30 rfl ?_
  refine A_iload_n d_154_32 rfl ?_
  refine A_eq0 (t := 46) d_154_33 (by decide) ?_ ?_
  · exact rfl
  · refine A_iload_n d_154_36 rfl ?_
    refine A_iconst d_154_37 (by decide) ?_
    refine A_eq (t := 46) d_154_38 (by decide) ?_ ?_
    · exact rfl
    · refine A_iload_n d_154_41 rfl ?_
      refine A_iconst d_154_42 (by decide) ?_
      refine A_ne (t := 50) d_154_43 (by decide) ?_ ?_
      · refine A_iload_n d_154_50 rfl ?_
        refine A_iconst d_154_51 (by decide) ?_
        refine A_ne (t := 60) d_154_52 (by decide) ?_ ?_
        · refine A_iload_n d_154_60 rfl ?_
          refine A_iconst d_154_61 (by decide) ?_
          refine A_ne (t := 72) d_154_62 (by decide) ?_ ?_
          · refine A_iload_n d_154_72 rfl ?_
            refine A_iconst d_154_73 (by decide) ?_
            refine A_ne (t := 81) d_154_74 (by decide) ?_ ?_
            · refine A_iload_n d_154_81 rfl ?_
              refine A_bipush d_154_82 (by decide) ?_
              refine A_eq (t := 99) d_154_84 (by decide) ?_ ?_
              · exact rfl
              · refine A_iload_n d_154_87 rfl ?_
                refine A_bipush d_154_88 (by decide) ?_
                refine A_eq (t := 99) d_154_90 (by decide) ?_ ?_
                · exact rfl
                · refine A_iload_n d_154_93 rfl ?_
                  refine A_bipush d_154_94 (by decide) ?_
                  refine A_ne (t := 106) d_154_96 (by decide) ?_ ?_
                  · refine A_iconst d_154_106 (by decide) ?_
                    exact rfl
                  · exact rfl
            · refine A_iconst d_154_77 (by decide) ?_
              refine A_goto (t := 107) d_154_78 (by decide) ?_
              exact rfl
          · refine A_iload d_154_65 rfl ?_
            refine A_iconst d_154_67 (by decide) ?_
            refine A_isub d_154_68 ?_
            refine A_goto (t := 107) d_154_69 (by decide) ?_
            exact rfl
        · refine A_bipush d_154_55 (by decide) ?_
          refine A_goto (t := 107) d_154_57 (by decide) ?_
          exact rfl
      · exact rfl
set_option maxRecDepth 20000 in
theorem q_Md_mayBe_46 (x0 : Int) (x1 : Int) (x2 : Int) (x3 : Int) (x4 : Int) (x5 : Int) (x6 : Int) (h : mH) : B_Md_mayBe_46 x0 x1 x2 x3 x4 x5 x6 h =
  B_Md_mayBe_107 x0 x1 x2 x3 x4 x5 x6 3 h := by
  unfold B_Md_mayBe_46
  refine A_iconst d_154_46 (by decide) ?_
  refine A_goto (t := 107) d_154_47 (by decide) ?_
  exact rfl
set_option maxRecDepth 20000 in
theorem q_Md_mayBe_99 (x0 : Int) (x1 : Int) (x2 : Int) (x3 : Int) (x4 : Int) (x5 : Int) (x6 : Int) (h : mH) : B_Md_mayBe_99 x0 x1 x2 x3 x4 x5 x6 h =
  B_Md_mayBe_107 x0 x1 x2 x3 x4 x5 x6 (w32 (x5 - 1)) h := by
  unfold B_Md_mayBe_99
  refine A_iload d_154_99 rfl ?_
  refine A_iconst d_154_101 (by decide) ?_
  refine A_isub d_154_102 ?_
  refine A_goto (t := 107) d_154_103 (by decide) ?_
  exact rfl
set_option maxRecDepth 20000 in
theorem q_Md_mayBe_107 (x0 : Int) (x1 : Int) (x2 : Int) (x3 : Int) (x4 : Int) (x5 : Int) (x6 : Int) (s0 : Int) (h : mH) : B_Md_mayBe_107 x0 x1 x2 x3 x4 x5 x6 s0 h =
  if x0 ≠ 4 then
    (if x0 ≠ 5 then
      (B_Md_mayBe_128 x0 x1 x2 x3 x4 x5 x6 s0 0 h)
    else
      (B_Md_mayBe_128 x0 x1 x2 x3 x4 x5 x6 s0 2 h))
  else
    (B_Md_mayBe_128 x0 x1 x2 x3 x4 x5 x6 s0 3 h) := by
  unfold B_Md_mayBe_107
  refine A_istore d_154_107 rfl ?_
  refine A_iload_n d_154_109 rfl ?_
  refine A_iconst d_154_110 (by decide) ?_
  refine A_ne (t := 118) d_154_111 (by decide) ?_ ?_
  · refine A_iload_n d_154_118 rfl ?_
    refine A_iconst d_154_119 (by decide) ?_
    refine A_ne (t := 127) d_154_120 (by decide) ?_ ?_
    · refine A_iconst d_154_127 (by decide) ?_
      exact rfl
    · refine A_iconst d_154_123 (by decide) ?_
      refine A_goto (t := 128) d_154_124 (by decide) ?_
      exact rfl
  · refine A_iconst d_154_114 (by decide) ?_
    refine A_goto (t := 128) d_154_115 (by decide) ?_
    exact rfl
set_option maxRecDepth 20000 in
theorem q_Md_mayBe_128 (x0 : Int) (x1 : Int) (x2 : Int) (x3 : Int) (x4 : Int) (x5 : Int) (x6 : Int) (x7 : Int) (s0 : Int) (h : mH) : B_Md_mayBe_128 x0 x1 x2 x3 x4 x5 x6 x7 s0 h =
  (F_Md_in x0 0 13 h).bind fun q136 =>
  if q136.1 = 0 then
    (some (0, q136.2))
  else
    ((F_Md_in x1 0 x6 q136.2).bind fun q148 =>
    if q148.1 = 0 then
      (some (0, q148.2))
    else
      ((F_Md_in x2 0 x7 q148.2).bind fun q160 =>
      if q160.1 = 0 then
        (some (0, q160.2))
      else
        ((F_Md_in x3 0 s0 q160.2).bind fun q172 =>
        if q172.1 = 0 then
          (some (0, q172.2))
        else
          (some (1, q172.2))))) := by
  unfold B_Md_mayBe_128
  refine A_istore d_154_128 rfl ?_
  refine A_iload_n d_154_130 rfl ?_
  refine A_i2l d_154_131 ?_
  refine A_lconst d_154_132 (x := 0) rfl ?_
  refine A_ldc2 d_154_133 kJ_6_155 ?_
  refine A_call (t := 135) (way := 2) rfl d_154_136 rfl (cl kI_6_106 rfl) rfl (by decide) rfl (fun q136 => ?_)
  refine A_eq0 (t := 182) d_154_139 (by decide) ?_ ?_
  · refine A_iconst d_154_182 (by decide) ?_
    exact A_iretz rfl d_154_183 (by decide)
  · refine A_iload_n d_154_142 rfl ?_
    refine A_i2l d_154_143 ?_
    refine A_lconst d_154_144 (x := 0) rfl ?_
    refine A_iload d_154_145 rfl ?_
    refine A_i2l d_154_147 ?_
    refine A_call (t := 135) (way := 2) rfl d_154_148 rfl (cl kI_6_106 rfl) rfl (by decide) rfl (fun q148 => ?_)
    refine A_eq0 (t := 182) d_154_151 (by decide) ?_ ?_
    · refine A_iconst d_154_182 (by decide) ?_
      exact A_iretz rfl d_154_183 (by decide)
    · refine A_iload_n d_154_154 rfl ?_
      refine A_i2l d_154_155 ?_
      refine A_lconst d_154_156 (x := 0) rfl ?_
      refine A_iload d_154_157 rfl ?_
      refine A_i2l d_154_159 ?_
      refine A_call (t := 135) (way := 2) rfl d_154_160 rfl (cl kI_6_106 rfl) rfl (by decide) rfl (fun q160 => ?_)
      refine A_eq0 (t := 182) d_154_163 (by decide) ?_ ?_
      · refine A_iconst d_154_182 (by decide) ?_
        exact A_iretz rfl d_154_183 (by decide)
      · refine A_iload_n d_154_166 rfl ?_
        refine A_i2l d_154_167 ?_
        refine A_lconst d_154_168 (x := 0) rfl ?_
        refine A_iload d_154_169 rfl ?_
        refine A_i2l d_154_171 ?_
        refine A_call (t := 135) (way := 2) rfl d_154_172 rfl (cl kI_6_106 rfl) rfl (by decide) rfl (fun q172 => ?_)
        refine A_eq0 (t := 182) d_154_175 (by decide) ?_ ?_
        · refine A_iconst d_154_182 (by decide) ?_
          exact A_iretz rfl d_154_183 (by decide)
        · refine A_iconst d_154_178 (by decide) ?_
          refine A_goto (t := 183) d_154_179 (by decide) ?_
          exact A_iretz rfl d_154_183 (by decide)
set_option maxRecDepth 20000 in
theorem q_Md_mayBe (x0 : Int) (x1 : Int) (x2 : Int) (x3 : Int) (x4 : Int) (x5 : Int) (h : mH) : F_Md_mayBe x0 x1 x2 x3 x4 x5 h =
  if x0 = 9 then
    (B_Md_mayBe_12 x0 x1 x2 x3 x4 x5 h)
  else
    (if x0 ≠ 11 then
      (if x0 ≠ 13 then
        (B_Md_mayBe_30 x0 x1 x2 x3 x4 x5 3 h)
      else
        (B_Md_mayBe_30 x0 x1 x2 x3 x4 x5 0 h))
    else
      (B_Md_mayBe_12 x0 x1 x2 x3 x4 x5 h)) := by
  refine (congrArg asI (if_pos rfl)).trans ?_
  show asI (Lim 154 0 [some (.inl x0), some (.inl x1), some (.inl x2), some (.inl x3), some (.inl x4), some (.inl x5), none, none, none] [] h) = _
  refine A_iload_n d_154_0 rfl ?_
  refine A_bipush d_154_1 (by decide) ?_
  refine A_eq (t := 12) d_154_3 (by decide) ?_ ?_
  · exact rfl
  · refine A_iload_n d_154_6 rfl ?_
    refine A_bipush d_154_7 (by decide) ?_
    refine A_ne (t := 19) d_154_9 (by decide) ?_ ?_
    · refine A_iload_n d_154_19 rfl ?_
      refine A_bipush d_154_20 (by decide) ?_
      refine A_ne (t := 29) d_154_22 (by decide) ?_ ?_
      · refine A_iconst d_154_29 (by decide) ?_
        exact rfl
      · refine A_iconst d_154_25 (by decide) ?_
        refine A_goto (t := 30) d_154_26 (by decide) ?_
        exact rfl
    · exact rfl
set_option maxRecDepth 20000 in
theorem q_Md_reads_14 (a0 : Nat) (o1 : Option mV) (h : mH) : B_Md_reads_14 a0 o1 h =
  (gfd 6 19 h a0).bind fun v15 =>
  (gfd 6 17 h a0).bind fun v19 =>
  if v19 ≤ v15 then
    (some h)
  else
    ((gfd 6 21 h a0).bind fun v26 =>
    if v26 ≠ 0 then
      (some h)
    else
      ((gfd 6 19 h a0).bind fun v34 =>
      (pfd 6 20 h a0 v34).bind fun h37 =>
      (gfd 6 19 h37 a0).bind fun v42 =>
      (F_Md_letterAt a0 v42 h37).bind fun q45 =>
      (gfd 6 19 q45.2 a0).bind fun v51 =>
      (pfd 6 19 q45.2 a0 (w32 (v51 + 1))).bind fun h56 =>
      if q45.1 ≠ 115 then
        (if q45.1 ≠ 108 then
          (if q45.1 ≠ 105 then
            (((bz 1).bind fun _ => pfd 6 21 h56 a0 1).bind fun h100 =>
            B_Md_reads_103 a0 q45.1 h100)
          else
            ((F_Md_codeItem a0 h56).bind fun h92 =>
            B_Md_reads_103 a0 q45.1 h92))
        else
          ((F_Md_labelItem a0 h56).bind fun h79 =>
          B_Md_reads_103 a0 q45.1 h79))
      else
        ((F_Md_sortItem a0 h56).bind fun h66 =>
        B_Md_reads_103 a0 q45.1 h66))) := by
  unfold B_Md_reads_14
  refine A_aload_n d_155_14 rfl ?_
  refine A_getfI rfl d_155_15 kF_6_113 (by decide) (fun v15 => ?_)
  refine A_aload_n d_155_18 rfl ?_
  refine A_getfI rfl d_155_19 kF_6_110 (by decide) (fun v19 => ?_)
  refine A_ge (t := 145) d_155_22 (by decide) ?_ ?_
  · exact A_ret rfl d_155_145
  · refine A_aload_n d_155_25 rfl ?_
    refine A_getfI rfl d_155_26 kF_6_124 (by decide) (fun v26 => ?_)
    refine A_ne0 (t := 145) d_155_29 (by decide) ?_ ?_
    · exact A_ret rfl d_155_145
    · refine A_aload_n d_155_32 rfl ?_
      refine A_aload_n d_155_33 rfl ?_
      refine A_getfI rfl d_155_34 kF_6_113 (by decide) (fun v34 => ?_)
      refine A_putfI rfl d_155_37 kF_6_157 rfl (fun h37 => ?_)
      refine A_aload_n d_155_40 rfl ?_
      refine A_aload_n d_155_41 rfl ?_
      refine A_getfI rfl d_155_42 kF_6_113 (by decide) (fun v42 => ?_)
      refine A_call (t := 145) (way := 0) rfl d_155_45 rfl (cl kI_6_116 rfl) rfl (by decide) rfl (fun q45 => ?_)
      refine A_istore_n d_155_48 rfl ?_
      refine A_aload_n d_155_49 rfl ?_
      refine A_dup d_155_50 rfl ?_
      refine A_getfI rfl d_155_51 kF_6_113 (by decide) (fun v51 => ?_)
      refine A_iconst d_155_54 (by decide) ?_
      refine A_iadd d_155_55 ?_
      refine A_putfI rfl d_155_56 kF_6_113 rfl (fun h56 => ?_)
      refine A_iload_n d_155_59 rfl ?_
      refine A_bipush d_155_60 (by decide) ?_
      refine A_ne (t := 72) d_155_62 (by decide) ?_ ?_
      · refine A_iload_n d_155_72 rfl ?_
        refine A_bipush d_155_73 (by decide) ?_
        refine A_ne (t := 85) d_155_75 (by decide) ?_ ?_
        · refine A_iload_n d_155_85 rfl ?_
          refine A_bipush d_155_86 (by decide) ?_
          refine A_ne (t := 98) d_155_88 (by decide) ?_ ?_
          · refine A_aload_n d_155_98 rfl ?_
            refine A_iconst d_155_99 (by decide) ?_
            refine A_putfZ rfl d_155_100 kF_6_124 rfl (fun h100 => ?_)
            exact rfl
          · refine A_aload_n d_155_91 rfl ?_
            refine A_callU (t := 152) (way := 0) rfl d_155_92 rfl (cl kI_6_166 rfl) rfl rfl rfl (fun h92 => ?_)
            refine A_goto (t := 103) d_155_95 (by decide) ?_
            exact rfl
        · refine A_aload_n d_155_78 rfl ?_
          refine A_callU (t := 151) (way := 0) rfl d_155_79 rfl (cl kI_6_163 rfl) rfl rfl rfl (fun h79 => ?_)
          refine A_goto (t := 103) d_155_82 (by decide) ?_
          exact rfl
      · refine A_aload_n d_155_65 rfl ?_
        refine A_callU (t := 150) (way := 0) rfl d_155_66 rfl (cl kI_6_160 rfl) rfl rfl rfl (fun h66 => ?_)
        refine A_goto (t := 103) d_155_69 (by decide) ?_
        exact rfl
set_option maxRecDepth 20000 in
theorem q_Md_reads_103 (a0 : Nat) (x1 : Int) (h : mH) : B_Md_reads_103 a0 x1 h =
  (gfd 6 21 h a0).bind fun v105 =>
  if v105 ≠ 0 then
    (B_Md_reads_124 a0 x1 a0 h)
  else
    ((gfd 6 19 h a0).bind fun v113 =>
    (F_Md_letterAt a0 v113 h).bind fun q116 =>
    if q116.1 = 59 then
      (B_Md_reads_129 a0 x1 0 a0 q116.2)
    else
      (B_Md_reads_124 a0 x1 a0 q116.2)) := by
  unfold B_Md_reads_103
  refine A_aload_n d_155_103 rfl ?_
  refine A_aload_n d_155_104 rfl ?_
  refine A_getfI rfl d_155_105 kF_6_124 (by decide) (fun v105 => ?_)
  refine A_ne0 (t := 124) d_155_108 (by decide) ?_ ?_
  · exact rfl
  · refine A_aload_n d_155_111 rfl ?_
    refine A_aload_n d_155_112 rfl ?_
    refine A_getfI rfl d_155_113 kF_6_113 (by decide) (fun v113 => ?_)
    refine A_call (t := 145) (way := 0) rfl d_155_116 rfl (cl kI_6_116 rfl) rfl (by decide) rfl (fun q116 => ?_)
    refine A_bipush d_155_119 (by decide) ?_
    refine A_eq (t := 128) d_155_121 (by decide) ?_ ?_
    · refine A_iconst d_155_128 (by decide) ?_
      exact rfl
    · exact rfl
set_option maxRecDepth 20000 in
theorem q_Md_reads_124 (a0 : Nat) (x1 : Int) (sa0 : Nat) (h : mH) : B_Md_reads_124 a0 x1 sa0 h =
  B_Md_reads_129 a0 x1 1 sa0 h := by
  unfold B_Md_reads_124
  refine A_iconst d_155_124 (by decide) ?_
  refine A_goto (t := 129) d_155_125 (by decide) ?_
  exact rfl
set_option maxRecDepth 20000 in
theorem q_Md_reads_129 (a0 : Nat) (x1 : Int) (s0 : Int) (sa1 : Nat) (h : mH) : B_Md_reads_129 a0 x1 s0 sa1 h =
  ((bz s0).bind fun _ => pfd 6 21 h sa1 s0).bind fun h129 =>
  (gfd 6 19 h129 a0).bind fun v134 =>
  (pfd 6 19 h129 a0 (w32 (v134 + 1))).bind fun h139 =>
  B_Md_reads_14 a0 (some (.inl x1)) h139 := by
  unfold B_Md_reads_129
  refine A_putfZ rfl d_155_129 kF_6_124 rfl (fun h129 => ?_)
  refine A_aload_n d_155_132 rfl ?_
  refine A_dup d_155_133 rfl ?_
  refine A_getfI rfl d_155_134 kF_6_113 (by decide) (fun v134 => ?_)
  refine A_iconst d_155_137 (by decide) ?_
  refine A_iadd d_155_138 ?_
  refine A_putfI rfl d_155_139 kF_6_113 rfl (fun h139 => ?_)
  refine A_goto (t := 14) d_155_142 (by decide) ?_
  exact rfl
set_option maxRecDepth 20000 in
theorem q_Md_reads (a0 : Nat) (h : mH) (ho : isO h a0 6 = true) : F_Md_reads a0 h =
  (F_Md_begins a0 h).bind fun h1 =>
  (pfd 6 19 h1 a0 0).bind fun h6 =>
  ((bz 0).bind fun _ => pfd 6 21 h6 a0 0).bind fun h11 =>
  B_Md_reads_14 a0 none h11 := by
  refine (congrArg asU (if_pos ho)).trans ?_
  show asU (Lim 155 0 [some (.inr (.inr a0)), none] [] h) = _
  refine A_aload_n d_155_0 rfl ?_
  refine A_callU (t := 138) (way := 0) rfl d_155_1 rfl (cl kI_6_62 rfl) rfl rfl rfl (fun h1 => ?_)
  refine A_aload_n d_155_4 rfl ?_
  refine A_iconst d_155_5 (by decide) ?_
  refine A_putfI rfl d_155_6 kF_6_113 rfl (fun h6 => ?_)
  refine A_aload_n d_155_9 rfl ?_
  refine A_iconst d_155_10 (by decide) ?_
  refine A_putfZ rfl d_155_11 kF_6_124 rfl (fun h11 => ?_)
  exact rfl
set_option maxRecDepth 20000 in
theorem q_Md_fault (a0 : Nat) (h : mH) (ho : isO h a0 6 = true) : F_Md_fault a0 h =
  (F_Md_reads a0 h).bind fun h1 =>
  (gfd 6 21 h1 a0).bind fun v5 =>
  if v5 = 0 then
    (some ((-4), h1))
  else
    ((gfd 6 20 h1 a0).bind fun v12 =>
    some (v12, h1)) := by
  refine (congrArg asI (if_pos ho)).trans ?_
  show asI (Lim 156 0 [some (.inr (.inr a0))] [] h) = _
  refine A_aload_n d_156_0 rfl ?_
  refine A_callU (t := 155) (way := 0) rfl d_156_1 rfl (cl kI_6_169 rfl) rfl rfl rfl (fun h1 => ?_)
  refine A_aload_n d_156_4 rfl ?_
  refine A_getfI rfl d_156_5 kF_6_124 (by decide) (fun v5 => ?_)
  refine A_eq0 (t := 18) d_156_8 (by decide) ?_ ?_
  · refine A_bipush d_156_18 (by decide) ?_
    exact A_ireti rfl d_156_20
  · refine A_aload_n d_156_11 rfl ?_
    refine A_getfI rfl d_156_12 kF_6_157 (by decide) (fun v12 => ?_)
    refine A_goto (t := 20) d_156_15 (by decide) ?_
    exact A_ireti rfl d_156_20
set_option maxRecDepth 20000 in
theorem q_Md_lay (a0 : Nat) (h : mH) (ho : isO h a0 6 = true) : F_Md_lay a0 h =
  (F_Md_reads a0 h).bind fun h1 =>
  (gfd 6 21 h1 a0).bind fun v5 =>
  if v5 ≠ 0 then
    (some ((-2), h1))
  else
    ((gfd 6 9 h1 a0).bind fun v12 =>
    if v12 = 0 then
      (some ((-2), h1))
    else
      ((gfd 6 13 h1 a0).bind fun v19 =>
      (gfd 6 9 h1 a0).bind fun v23 =>
      if ishr v19 v23 = 0 then
        ((F_Md_settles a0 h1).bind fun h34 =>
        (gfd 6 3 h34 a0).bind fun v38 =>
        some (v38, h34))
      else
        (some ((-2), h1)))) := by
  refine (congrArg asI (if_pos ho)).trans ?_
  show asI (Lim 157 0 [some (.inr (.inr a0))] [] h) = _
  refine A_aload_n d_157_0 rfl ?_
  refine A_callU (t := 155) (way := 0) rfl d_157_1 rfl (cl kI_6_169 rfl) rfl rfl rfl (fun h1 => ?_)
  refine A_aload_n d_157_4 rfl ?_
  refine A_getfI rfl d_157_5 kF_6_124 (by decide) (fun v5 => ?_)
  refine A_ne0 (t := 30) d_157_8 (by decide) ?_ ?_
  · refine A_bipush d_157_30 (by decide) ?_
    exact A_ireti rfl d_157_32
  · refine A_aload_n d_157_11 rfl ?_
    refine A_getfI rfl d_157_12 kF_6_84 (by decide) (fun v12 => ?_)
    refine A_eq0 (t := 30) d_157_15 (by decide) ?_ ?_
    · refine A_bipush d_157_30 (by decide) ?_
      exact A_ireti rfl d_157_32
    · refine A_aload_n d_157_18 rfl ?_
      refine A_getfI rfl d_157_19 kF_6_87 (by decide) (fun v19 => ?_)
      refine A_aload_n d_157_22 rfl ?_
      refine A_getfI rfl d_157_23 kF_6_84 (by decide) (fun v23 => ?_)
      refine A_ishr d_157_26 ?_
      refine A_eq0 (t := 33) d_157_27 (by decide) ?_ ?_
      · refine A_aload_n d_157_33 rfl ?_
        refine A_callU (t := 142) (way := 0) rfl d_157_34 rfl (cl kI_6_77 rfl) rfl rfl rfl (fun h34 => ?_)
        refine A_aload_n d_157_37 rfl ?_
        refine A_getfI rfl d_157_38 kF_6_93 (by decide) (fun v38 => ?_)
        exact A_ireti rfl d_157_41
      · refine A_bipush d_157_30 (by decide) ?_
        exact A_ireti rfl d_157_32
set_option maxRecDepth 20000 in
theorem q_Md_isLabel (a0 : Nat) (x1 : Int) (h : mH) (ho : isO h a0 6 = true) : F_Md_isLabel a0 x1 h =
  (gfd 6 3 h a0).bind fun v4 =>
  (F_Md_in x1 0 (w32 (v4 - 1)) h).bind fun q10 =>
  rz q10.1 q10.2 := by
  refine (congrArg asI (if_pos ho)).trans ?_
  show asI (Lim 158 0 [some (.inr (.inr a0)), some (.inl x1)] [] h) = _
  refine A_iload_n d_158_0 rfl ?_
  refine A_i2l d_158_1 ?_
  refine A_lconst d_158_2 (x := 0) rfl ?_
  refine A_aload_n d_158_3 rfl ?_
  refine A_getfI rfl d_158_4 kF_6_93 (by decide) (fun v4 => ?_)
  refine A_iconst d_158_7 (by decide) ?_
  refine A_isub d_158_8 ?_
  refine A_i2l d_158_9 ?_
  refine A_call (t := 135) (way := 2) rfl d_158_10 rfl (cl kI_6_106 rfl) rfl (by decide) rfl (fun q10 => ?_)
  exact A_iretb rfl d_158_13
set_option maxRecDepth 20000 in
theorem q_Md_spot (x0 : Int) (x1 : Int) (x2 : Int) (h : mH) : F_Md_spot x0 x1 x2 h =
  some (w32 ((w32 ((w32 (x0 + (w32 (30 * x1)))) + 6)) + (w32 (4 * x2))), h) := by
  refine (congrArg asI (if_pos rfl)).trans ?_
  show asI (Lim 159 0 [some (.inl x0), some (.inl x1), some (.inl x2)] [] h) = _
  refine A_iload_n d_159_0 rfl ?_
  refine A_bipush d_159_1 (by decide) ?_
  refine A_iload_n d_159_3 rfl ?_
  refine A_imul d_159_4 ?_
  refine A_iadd d_159_5 ?_
  refine A_bipush d_159_6 (by decide) ?_
  refine A_iadd d_159_8 ?_
  refine A_iconst d_159_9 (by decide) ?_
  refine A_iload_n d_159_10 rfl ?_
  refine A_imul d_159_11 ?_
  refine A_iadd d_159_12 ?_
  exact A_ireti rfl d_159_13
set_option maxRecDepth 20000 in
theorem q_Md_many (a0 : Nat) (x1 : Int) (x2 : Int) (h : mH) (ho : isO h a0 6 = true) : F_Md_many a0 x1 x2 h =
  (gfd 6 14 h a0).bind fun v1 =>
  (ald 10 h v1.toNat (w32 ((w32 (x1 + (w32 (30 * x2)))) + 5))).bind fun v12 =>
  some (v12, h) := by
  refine (congrArg asI (if_pos ho)).trans ?_
  show asI (Lim 160 0 [some (.inr (.inr a0)), some (.inl x1), some (.inl x2)] [] h) = _
  refine A_aload_n d_160_0 rfl ?_
  refine A_getfA rfl d_160_1 kF_6_37 (fun v1 => ?_)
  refine A_iload_n d_160_4 rfl ?_
  refine A_bipush d_160_5 (by decide) ?_
  refine A_iload_n d_160_7 rfl ?_
  refine A_imul d_160_8 ?_
  refine A_iadd d_160_9 ?_
  refine A_iconst d_160_10 (by decide) ?_
  refine A_iadd d_160_11 ?_
  refine A_iald rfl d_160_12 (fun v12 => ?_)
  exact A_ireti rfl d_160_13
set_option maxRecDepth 20000 in
theorem q_Md_isCode (a0 : Nat) (x1 : Int) (x2 : Int) (h : mH) (ho : isO h a0 6 = true) : F_Md_isCode a0 x1 x2 h =
  (F_Md_isLabel a0 x1 h).bind fun q2 =>
  if q2.1 = 0 then
    (some (0, q2.2))
  else
    ((F_Md_many a0 0 x1 q2.2).bind fun q14 =>
    (F_Md_in x2 0 (w32 (q14.1 - 1)) q14.2).bind fun q20 =>
    if q20.1 = 0 then
      (some (0, q20.2))
    else
      (some (1, q20.2))) := by
  refine (congrArg asI (if_pos ho)).trans ?_
  show asI (Lim 161 0 [some (.inr (.inr a0)), some (.inl x1), some (.inl x2)] [] h) = _
  refine A_aload_n d_161_0 rfl ?_
  refine A_iload_n d_161_1 rfl ?_
  refine A_call (t := 158) (way := 0) rfl d_161_2 rfl (cl kI_6_172 rfl) rfl (by decide) rfl (fun q2 => ?_)
  refine A_eq0 (t := 30) d_161_5 (by decide) ?_ ?_
  · refine A_iconst d_161_30 (by decide) ?_
    exact A_iretz rfl d_161_31 (by decide)
  · refine A_iload_n d_161_8 rfl ?_
    refine A_i2l d_161_9 ?_
    refine A_lconst d_161_10 (x := 0) rfl ?_
    refine A_aload_n d_161_11 rfl ?_
    refine A_iconst d_161_12 (by decide) ?_
    refine A_iload_n d_161_13 rfl ?_
    refine A_call (t := 160) (way := 0) rfl d_161_14 rfl (cl kI_6_176 rfl) rfl (by decide) rfl (fun q14 => ?_)
    refine A_iconst d_161_17 (by decide) ?_
    refine A_isub d_161_18 ?_
    refine A_i2l d_161_19 ?_
    refine A_call (t := 135) (way := 2) rfl d_161_20 rfl (cl kI_6_106 rfl) rfl (by decide) rfl (fun q20 => ?_)
    refine A_eq0 (t := 30) d_161_23 (by decide) ?_ ?_
    · refine A_iconst d_161_30 (by decide) ?_
      exact A_iretz rfl d_161_31 (by decide)
    · refine A_iconst d_161_26 (by decide) ?_
      refine A_goto (t := 31) d_161_27 (by decide) ?_
      exact A_iretz rfl d_161_31 (by decide)
set_option maxRecDepth 20000 in
theorem q_Md_isType_46 (a0 : Nat) (x1 : Int) (h : mH) : B_Md_isType_46 a0 x1 h =
  some (1, h) := by
  unfold B_Md_isType_46
  refine A_iconst d_162_46 (by decide) ?_
  refine A_goto (t := 51) d_162_47 (by decide) ?_
  exact A_iretz rfl d_162_51 (by decide)
set_option maxRecDepth 20000 in
theorem q_Md_isType (a0 : Nat) (x1 : Int) (h : mH) (ho : isO h a0 6 = true) : F_Md_isType a0 x1 h =
  (F_Md_in x1 0 1 h).bind fun q4 =>
  if q4.1 ≠ 0 then
    (B_Md_isType_46 a0 x1 q4.2)
  else
    ((gfd 6 0 q4.2 a0).bind fun v17 =>
    (F_Md_in x1 2 (w32 (1 + v17)) q4.2).bind fun q22 =>
    if q22.1 ≠ 0 then
      (B_Md_isType_46 a0 x1 q22.2)
    else
      ((gfd 6 3 q22.2 a0).bind fun v35 =>
      (F_Md_in x1 6 (w32 (5 + v35)) q22.2).bind fun q40 =>
      if q40.1 = 0 then
        (some (0, q40.2))
      else
        (B_Md_isType_46 a0 x1 q40.2))) := by
  refine (congrArg asI (if_pos ho)).trans ?_
  show asI (Lim 162 0 [some (.inr (.inr a0)), some (.inl x1)] [] h) = _
  refine A_iload_n d_162_0 rfl ?_
  refine A_i2l d_162_1 ?_
  refine A_lconst d_162_2 (x := 0) rfl ?_
  refine A_lconst d_162_3 (x := 1) rfl ?_
  refine A_call (t := 135) (way := 2) rfl d_162_4 rfl (cl kI_6_106 rfl) rfl (by decide) rfl (fun q4 => ?_)
  refine A_ne0 (t := 46) d_162_7 (by decide) ?_ ?_
  · exact rfl
  · refine A_iload_n d_162_10 rfl ?_
    refine A_i2l d_162_11 ?_
    refine A_ldc2 d_162_12 kJ_6_128 ?_
    refine A_iconst d_162_15 (by decide) ?_
    refine A_aload_n d_162_16 rfl ?_
    refine A_getfI rfl d_162_17 kF_6_90 (by decide) (fun v17 => ?_)
    refine A_iadd d_162_20 ?_
    refine A_i2l d_162_21 ?_
    refine A_call (t := 135) (way := 2) rfl d_162_22 rfl (cl kI_6_106 rfl) rfl (by decide) rfl (fun q22 => ?_)
    refine A_ne0 (t := 46) d_162_25 (by decide) ?_ ?_
    · exact rfl
    · refine A_iload_n d_162_28 rfl ?_
      refine A_i2l d_162_29 ?_
      refine A_ldc2 d_162_30 kJ_6_179 ?_
      refine A_iconst d_162_33 (by decide) ?_
      refine A_aload_n d_162_34 rfl ?_
      refine A_getfI rfl d_162_35 kF_6_93 (by decide) (fun v35 => ?_)
      refine A_iadd d_162_38 ?_
      refine A_i2l d_162_39 ?_
      refine A_call (t := 135) (way := 2) rfl d_162_40 rfl (cl kI_6_106 rfl) rfl (by decide) rfl (fun q40 => ?_)
      refine A_eq0 (t := 50) d_162_43 (by decide) ?_ ?_
      · refine A_iconst d_162_50 (by decide) ?_
        exact A_iretz rfl d_162_51 (by decide)
      · exact rfl
set_option maxRecDepth 20000 in
theorem q_Md_sort (a0 : Nat) (x1 : Int) (x2 : Int) (h : mH) (ho : isO h a0 6 = true) : F_Md_sort a0 x1 x2 h =
  (gfd 6 0 h a0).bind fun v4 =>
  (F_Md_in x1 0 (w32 (v4 - 1)) h).bind fun q10 =>
  if q10.1 = 0 then
    (some ((-1), q10.2))
  else
    ((gfd 6 1 q10.2 a0).bind fun v22 =>
    (ald 10 q10.2 v22.toNat x1).bind fun v26 =>
    (F_Md_in x2 (-1) (w32 (v26 - 1)) q10.2).bind fun q30 =>
    if q30.1 ≠ 0 then
      (if 0 ≤ x2 then
        ((gfd 6 2 q30.2 a0).bind fun v52 =>
        (ald 10 q30.2 v52.toNat (w32 ((w32 (3 * x1)) + x2))).bind fun v60 =>
        some (v60, q30.2))
      else
        ((gfd 6 1 q30.2 a0).bind fun v43 =>
        (ald 10 q30.2 v43.toNat x1).bind fun v47 =>
        some (v47, q30.2)))
    else
      (some ((-1), q30.2))) := by
  refine (congrArg asI (if_pos ho)).trans ?_
  show asI (Lim 163 0 [some (.inr (.inr a0)), some (.inl x1), some (.inl x2)] [] h) = _
  refine A_iload_n d_163_0 rfl ?_
  refine A_i2l d_163_1 ?_
  refine A_lconst d_163_2 (x := 0) rfl ?_
  refine A_aload_n d_163_3 rfl ?_
  refine A_getfI rfl d_163_4 kF_6_90 (by decide) (fun v4 => ?_)
  refine A_iconst d_163_7 (by decide) ?_
  refine A_isub d_163_8 ?_
  refine A_i2l d_163_9 ?_
  refine A_call (t := 135) (way := 2) rfl d_163_10 rfl (cl kI_6_106 rfl) rfl (by decide) rfl (fun q10 => ?_)
  refine A_eq0 (t := 36) d_163_13 (by decide) ?_ ?_
  · refine A_iconst d_163_36 (by decide) ?_
    exact A_ireti rfl d_163_37
  · refine A_iload_n d_163_16 rfl ?_
    refine A_i2l d_163_17 ?_
    refine A_ldc2 d_163_18 kJ_6_181 ?_
    refine A_aload_n d_163_21 rfl ?_
    refine A_getfA rfl d_163_22 kF_6_7 (fun v22 => ?_)
    refine A_iload_n d_163_25 rfl ?_
    refine A_iald rfl d_163_26 (fun v26 => ?_)
    refine A_iconst d_163_27 (by decide) ?_
    refine A_isub d_163_28 ?_
    refine A_i2l d_163_29 ?_
    refine A_call (t := 135) (way := 2) rfl d_163_30 rfl (cl kI_6_106 rfl) rfl (by decide) rfl (fun q30 => ?_)
    refine A_ne0 (t := 38) d_163_33 (by decide) ?_ ?_
    · refine A_iload_n d_163_38 rfl ?_
      refine A_ge0 (t := 51) d_163_39 (by decide) ?_ ?_
      · refine A_aload_n d_163_51 rfl ?_
        refine A_getfA rfl d_163_52 kF_6_13 (fun v52 => ?_)
        refine A_iconst d_163_55 (by decide) ?_
        refine A_iload_n d_163_56 rfl ?_
        refine A_imul d_163_57 ?_
        refine A_iload_n d_163_58 rfl ?_
        refine A_iadd d_163_59 ?_
        refine A_iald rfl d_163_60 (fun v60 => ?_)
        exact A_ireti rfl d_163_61
      · refine A_aload_n d_163_42 rfl ?_
        refine A_getfA rfl d_163_43 kF_6_7 (fun v43 => ?_)
        refine A_iload_n d_163_46 rfl ?_
        refine A_iald rfl d_163_47 (fun v47 => ?_)
        refine A_goto (t := 61) d_163_48 (by decide) ?_
        exact A_ireti rfl d_163_61
    · refine A_iconst d_163_36 (by decide) ?_
      exact A_ireti rfl d_163_37
set_option maxRecDepth 20000 in
theorem q_Md_label_48 (a0 : Nat) (x1 : Int) (x2 : Int) (h : mH) : B_Md_label_48 a0 x1 x2 h =
  if 4 ≤ x2 then
    (if x2 ≠ 4 then
      (if 8 ≤ x2 then
        (if x2 ≠ 8 then
          ((F_Md_many a0 0 x1 h).bind fun q125 =>
          some (q125.1, q125.2))
        else
          ((gfd 6 14 h a0).bind fun v109 =>
          (ald 10 h v109.toNat (w32 ((w32 (30 * x1)) + 4))).bind fun v118 =>
          some (v118, h)))
      else
        ((gfd 6 5 h a0).bind fun v88 =>
        (ald 10 h v88.toNat (w32 ((w32 ((w32 (3 * x1)) + x2)) - 5))).bind fun v98 =>
        some (v98, h)))
    else
      ((gfd 6 4 h a0).bind fun v73 =>
      (ald 10 h v73.toNat x1).bind fun v77 =>
      some (v77, h)))
  else
    ((gfd 6 14 h a0).bind fun v54 =>
    (ald 10 h v54.toNat (w32 ((w32 (30 * x1)) + x2))).bind fun v63 =>
    some (v63, h)) := by
  unfold B_Md_label_48
  refine A_iload_n d_164_48 rfl ?_
  refine A_iconst d_164_49 (by decide) ?_
  refine A_ge (t := 67) d_164_50 (by decide) ?_ ?_
  · refine A_iload_n d_164_67 rfl ?_
    refine A_iconst d_164_68 (by decide) ?_
    refine A_ne (t := 81) d_164_69 (by decide) ?_ ?_
    · refine A_iload_n d_164_81 rfl ?_
      refine A_bipush d_164_82 (by decide) ?_
      refine A_ge (t := 102) d_164_84 (by decide) ?_ ?_
      · refine A_iload_n d_164_102 rfl ?_
        refine A_bipush d_164_103 (by decide) ?_
        refine A_ne (t := 122) d_164_105 (by decide) ?_ ?_
        · refine A_aload_n d_164_122 rfl ?_
          refine A_iconst d_164_123 (by decide) ?_
          refine A_iload_n d_164_124 rfl ?_
          refine A_call (t := 160) (way := 0) rfl d_164_125 rfl (cl kI_6_176 rfl) rfl (by decide) rfl (fun q125 => ?_)
          exact A_ireti rfl d_164_128
        · refine A_aload_n d_164_108 rfl ?_
          refine A_getfA rfl d_164_109 kF_6_37 (fun v109 => ?_)
          refine A_bipush d_164_112 (by decide) ?_
          refine A_iload_n d_164_114 rfl ?_
          refine A_imul d_164_115 ?_
          refine A_iconst d_164_116 (by decide) ?_
          refine A_iadd d_164_117 ?_
          refine A_iald rfl d_164_118 (fun v118 => ?_)
          refine A_goto (t := 128) d_164_119 (by decide) ?_
          exact A_ireti rfl d_164_128
      · refine A_aload_n d_164_87 rfl ?_
        refine A_getfA rfl d_164_88 kF_6_19 (fun v88 => ?_)
        refine A_iconst d_164_91 (by decide) ?_
        refine A_iload_n d_164_92 rfl ?_
        refine A_imul d_164_93 ?_
        refine A_iload_n d_164_94 rfl ?_
        refine A_iadd d_164_95 ?_
        refine A_iconst d_164_96 (by decide) ?_
        refine A_isub d_164_97 ?_
        refine A_iald rfl d_164_98 (fun v98 => ?_)
        refine A_goto (t := 128) d_164_99 (by decide) ?_
        exact A_ireti rfl d_164_128
    · refine A_aload_n d_164_72 rfl ?_
      refine A_getfA rfl d_164_73 kF_6_16 (fun v73 => ?_)
      refine A_iload_n d_164_76 rfl ?_
      refine A_iald rfl d_164_77 (fun v77 => ?_)
      refine A_goto (t := 128) d_164_78 (by decide) ?_
      exact A_ireti rfl d_164_128
  · refine A_aload_n d_164_53 rfl ?_
    refine A_getfA rfl d_164_54 kF_6_37 (fun v54 => ?_)
    refine A_bipush d_164_57 (by decide) ?_
    refine A_iload_n d_164_59 rfl ?_
    refine A_imul d_164_60 ?_
    refine A_iload_n d_164_61 rfl ?_
    refine A_iadd d_164_62 ?_
    refine A_iald rfl d_164_63 (fun v63 => ?_)
    refine A_goto (t := 128) d_164_64 (by decide) ?_
    exact A_ireti rfl d_164_128
set_option maxRecDepth 20000 in
theorem q_Md_label (a0 : Nat) (x1 : Int) (x2 : Int) (h : mH) (ho : isO h a0 6 = true) : F_Md_label a0 x1 x2 h =
  (F_Md_isLabel a0 x1 h).bind fun q2 =>
  if q2.1 = 0 then
    (some ((-1), q2.2))
  else
    ((F_Md_in x2 0 9 q2.2).bind fun q14 =>
    if q14.1 = 0 then
      (some ((-1), q14.2))
    else
      ((F_Md_in x2 5 7 q14.2).bind fun q28 =>
      if q28.1 = 0 then
        (B_Md_label_48 a0 x1 x2 q28.2)
      else
        ((gfd 6 4 q28.2 a0).bind fun v38 =>
        (ald 10 q28.2 v38.toNat x1).bind fun v42 =>
        if w32 (x2 - 5) < v42 then
          (B_Md_label_48 a0 x1 x2 q28.2)
        else
          (some ((-1), q28.2))))) := by
  refine (congrArg asI (if_pos ho)).trans ?_
  show asI (Lim 164 0 [some (.inr (.inr a0)), some (.inl x1), some (.inl x2)] [] h) = _
  refine A_aload_n d_164_0 rfl ?_
  refine A_iload_n d_164_1 rfl ?_
  refine A_call (t := 158) (way := 0) rfl d_164_2 rfl (cl kI_6_172 rfl) rfl (by decide) rfl (fun q2 => ?_)
  refine A_eq0 (t := 46) d_164_5 (by decide) ?_ ?_
  · refine A_iconst d_164_46 (by decide) ?_
    exact A_ireti rfl d_164_47
  · refine A_iload_n d_164_8 rfl ?_
    refine A_i2l d_164_9 ?_
    refine A_lconst d_164_10 (x := 0) rfl ?_
    refine A_ldc2 d_164_11 kJ_6_183 ?_
    refine A_call (t := 135) (way := 2) rfl d_164_14 rfl (cl kI_6_106 rfl) rfl (by decide) rfl (fun q14 => ?_)
    refine A_eq0 (t := 46) d_164_17 (by decide) ?_ ?_
    · refine A_iconst d_164_46 (by decide) ?_
      exact A_ireti rfl d_164_47
    · refine A_iload_n d_164_20 rfl ?_
      refine A_i2l d_164_21 ?_
      refine A_ldc2 d_164_22 kJ_6_134 ?_
      refine A_ldc2 d_164_25 kJ_6_185 ?_
      refine A_call (t := 135) (way := 2) rfl d_164_28 rfl (cl kI_6_106 rfl) rfl (by decide) rfl (fun q28 => ?_)
      refine A_eq0 (t := 48) d_164_31 (by decide) ?_ ?_
      · exact rfl
      · refine A_iload_n d_164_34 rfl ?_
        refine A_iconst d_164_35 (by decide) ?_
        refine A_isub d_164_36 ?_
        refine A_aload_n d_164_37 rfl ?_
        refine A_getfA rfl d_164_38 kF_6_16 (fun v38 => ?_)
        refine A_iload_n d_164_41 rfl ?_
        refine A_iald rfl d_164_42 (fun v42 => ?_)
        refine A_lt (t := 48) d_164_43 (by decide) ?_ ?_
        · exact rfl
        · refine A_iconst d_164_46 (by decide) ?_
          exact A_ireti rfl d_164_47
set_option maxRecDepth 20000 in
theorem q_Md_code (a0 : Nat) (x1 : Int) (x2 : Int) (x3 : Int) (h : mH) (ho : isO h a0 6 = true) : F_Md_code a0 x1 x2 x3 h =
  (F_Md_isCode a0 x1 x2 h).bind fun q3 =>
  if q3.1 = 0 then
    (some ((-1), q3.2))
  else
    ((F_Md_in x3 0 3 q3.2).bind fun q15 =>
    if q15.1 = 0 then
      (some ((-1), q15.2))
    else
      ((gfd 6 14 q15.2 a0).bind fun v22 =>
      (F_Md_spot 0 x1 x2 q15.2).bind fun q28 =>
      (ald 10 q28.2 v22.toNat (w32 (q28.1 + x3))).bind fun v33 =>
      some (v33, q28.2))) := by
  refine (congrArg asI (if_pos ho)).trans ?_
  show asI (Lim 165 0 [some (.inr (.inr a0)), some (.inl x1), some (.inl x2), some (.inl x3)] [] h) = _
  refine A_aload_n d_165_0 rfl ?_
  refine A_iload_n d_165_1 rfl ?_
  refine A_iload_n d_165_2 rfl ?_
  refine A_call (t := 161) (way := 0) rfl d_165_3 rfl (cl kI_6_187 rfl) rfl (by decide) rfl (fun q3 => ?_)
  refine A_eq0 (t := 37) d_165_6 (by decide) ?_ ?_
  · refine A_iconst d_165_37 (by decide) ?_
    exact A_ireti rfl d_165_38
  · refine A_iload_n d_165_9 rfl ?_
    refine A_i2l d_165_10 ?_
    refine A_lconst d_165_11 (x := 0) rfl ?_
    refine A_ldc2 d_165_12 kJ_6_191 ?_
    refine A_call (t := 135) (way := 2) rfl d_165_15 rfl (cl kI_6_106 rfl) rfl (by decide) rfl (fun q15 => ?_)
    refine A_eq0 (t := 37) d_165_18 (by decide) ?_ ?_
    · refine A_iconst d_165_37 (by decide) ?_
      exact A_ireti rfl d_165_38
    · refine A_aload_n d_165_21 rfl ?_
      refine A_getfA rfl d_165_22 kF_6_37 (fun v22 => ?_)
      refine A_iconst d_165_25 (by decide) ?_
      refine A_iload_n d_165_26 rfl ?_
      refine A_iload_n d_165_27 rfl ?_
      refine A_call (t := 159) (way := 2) rfl d_165_28 rfl (cl kI_6_193 rfl) rfl (by decide) rfl (fun q28 => ?_)
      refine A_iload_n d_165_31 rfl ?_
      refine A_iadd d_165_32 ?_
      refine A_iald rfl d_165_33 (fun v33 => ?_)
      refine A_goto (t := 38) d_165_34 (by decide) ?_
      exact A_ireti rfl d_165_38
set_option maxRecDepth 20000 in
theorem q_Md_copies_2 (a0 : Nat) (x1 : Int) (x2 : Int) (x3 : Int) (h : mH) : B_Md_copies_2 a0 x1 x2 x3 h =
  if 120 ≤ x3 then
    (some h)
  else
    ((gfd 6 14 h a0).bind fun v9 =>
    (gfd 6 14 h a0).bind fun v16 =>
    (ald 10 h v16.toNat (w32 (x1 + x3))).bind fun v22 =>
    (ast h v9.toNat (w32 (x2 + x3)) v22).bind fun h23 =>
    B_Md_copies_2 a0 x1 x2 (w32 (x3 + 1)) h23) := by
  unfold B_Md_copies_2
  refine A_iload_n d_166_2 rfl ?_
  refine A_bipush d_166_3 (by decide) ?_
  refine A_ge (t := 30) d_166_5 (by decide) ?_ ?_
  · exact A_ret rfl d_166_30
  · refine A_aload_n d_166_8 rfl ?_
    refine A_getfA rfl d_166_9 kF_6_37 (fun v9 => ?_)
    refine A_iload_n d_166_12 rfl ?_
    refine A_iload_n d_166_13 rfl ?_
    refine A_iadd d_166_14 ?_
    refine A_aload_n d_166_15 rfl ?_
    refine A_getfA rfl d_166_16 kF_6_37 (fun v16 => ?_)
    refine A_iload_n d_166_19 rfl ?_
    refine A_iload_n d_166_20 rfl ?_
    refine A_iadd d_166_21 ?_
    refine A_iald rfl d_166_22 (fun v22 => ?_)
    refine A_iast rfl d_166_23 (fun h23 => ?_)
    refine A_iinc d_166_24 (by decide) rfl rfl ?_
    refine A_goto (t := 2) d_166_27 (by decide) ?_
    exact rfl
set_option maxRecDepth 20000 in
theorem q_Md_copies (a0 : Nat) (x1 : Int) (x2 : Int) (h : mH) (ho : isO h a0 6 = true) : F_Md_copies a0 x1 x2 h =
  B_Md_copies_2 a0 x1 x2 0 h := by
  refine (congrArg asU (if_pos ho)).trans ?_
  show asU (Lim 166 0 [some (.inr (.inr a0)), some (.inl x1), some (.inl x2), none] [] h) = _
  refine A_iconst d_166_0 (by decide) ?_
  refine A_istore_n d_166_1 rfl ?_
  exact rfl
set_option maxRecDepth 20000 in
theorem q_Md_known_12 (a0 : Nat) (x1 : Int) (h : mH) : B_Md_known_12 a0 x1 h =
  if 960 ≤ x1 then
    ((pfd 6 15 h a0 7).bind fun h43 =>
    B_Md_known_46 a0 (some (.inl x1)) h43)
  else
    ((gfd 6 14 h a0).bind fun v20 =>
    (gfd 6 14 h a0).bind fun v25 =>
    (ald 10 h v25.toNat (w32 (x1 + 120))).bind fun v32 =>
    (ast h v20.toNat x1 v32).bind fun h33 =>
    B_Md_known_12 a0 (w32 (x1 + 1)) h33) := by
  unfold B_Md_known_12
  refine A_iload_n d_167_12 rfl ?_
  refine A_sipush d_167_13 (by decide) ?_
  refine A_ge (t := 40) d_167_16 (by decide) ?_ ?_
  · refine A_aload_n d_167_40 rfl ?_
    refine A_bipush d_167_41 (by decide) ?_
    refine A_putfI rfl d_167_43 kF_6_96 rfl (fun h43 => ?_)
    exact rfl
  · refine A_aload_n d_167_19 rfl ?_
    refine A_getfA rfl d_167_20 kF_6_37 (fun v20 => ?_)
    refine A_iload_n d_167_23 rfl ?_
    refine A_aload_n d_167_24 rfl ?_
    refine A_getfA rfl d_167_25 kF_6_37 (fun v25 => ?_)
    refine A_iload_n d_167_28 rfl ?_
    refine A_bipush d_167_29 (by decide) ?_
    refine A_iadd d_167_31 ?_
    refine A_iald rfl d_167_32 (fun v32 => ?_)
    refine A_iast rfl d_167_33 (fun h33 => ?_)
    refine A_iinc d_167_34 (by decide) rfl rfl ?_
    refine A_goto (t := 12) d_167_37 (by decide) ?_
    exact rfl
set_option maxRecDepth 20000 in
theorem q_Md_known_46 (a0 : Nat) (o1 : Option mV) (h : mH) : B_Md_known_46 a0 o1 h =
  (gfd 6 15 h a0).bind fun v48 =>
  (pfd 6 15 h a0 (w32 (v48 + 1))).bind fun h53 =>
  (gfd 6 15 h53 a0).bind fun v59 =>
  (F_Md_copies a0 0 (w32 (v59 * 120)) h53).bind fun h65 =>
  some h65 := by
  unfold B_Md_known_46
  refine A_aload_n d_167_46 rfl ?_
  refine A_dup d_167_47 rfl ?_
  refine A_getfI rfl d_167_48 kF_6_96 (by decide) (fun v48 => ?_)
  refine A_iconst d_167_51 (by decide) ?_
  refine A_iadd d_167_52 ?_
  refine A_putfI rfl d_167_53 kF_6_96 rfl (fun h53 => ?_)
  refine A_aload_n d_167_56 rfl ?_
  refine A_iconst d_167_57 (by decide) ?_
  refine A_aload_n d_167_58 rfl ?_
  refine A_getfI rfl d_167_59 kF_6_96 (by decide) (fun v59 => ?_)
  refine A_bipush d_167_62 (by decide) ?_
  refine A_imul d_167_64 ?_
  refine A_callU (t := 166) (way := 0) rfl d_167_65 rfl (cl kI_6_196 rfl) rfl rfl rfl (fun h65 => ?_)
  exact A_ret rfl d_167_68
set_option maxRecDepth 20000 in
theorem q_Md_known (a0 : Nat) (h : mH) (ho : isO h a0 6 = true) : F_Md_known a0 h =
  (gfd 6 15 h a0).bind fun v1 =>
  if v1 ≠ 8 then
    (B_Md_known_46 a0 none h)
  else
    (B_Md_known_12 a0 120 h) := by
  refine (congrArg asU (if_pos ho)).trans ?_
  show asU (Lim 167 0 [some (.inr (.inr a0)), none] [] h) = _
  refine A_aload_n d_167_0 rfl ?_
  refine A_getfI rfl d_167_1 kF_6_96 (by decide) (fun v1 => ?_)
  refine A_bipush d_167_4 (by decide) ?_
  refine A_ne (t := 46) d_167_6 (by decide) ?_ ?_
  · exact rfl
  · refine A_bipush d_167_9 (by decide) ?_
    refine A_istore_n d_167_11 rfl ?_
    exact rfl
set_option maxRecDepth 20000 in
theorem q_Md_writes (a0 : Nat) (x1 : Int) (x2 : Int) (x3 : Int) (x4 : Int) (x5 : Int) (x6 : Int) (x7 : Int) (h : mH) (ho : isO h a0 6 = true) : F_Md_writes a0 x1 x2 x3 x4 x5 x6 x7 h =
  (F_Md_spot x1 x2 x3 h).bind fun q3 =>
  (gfd 6 14 q3.2 a0).bind fun v9 =>
  (ast q3.2 v9.toNat q3.1 x4).bind fun h16 =>
  (gfd 6 14 h16 a0).bind fun v18 =>
  (ast h16 v18.toNat (w32 (q3.1 + 1)) x5).bind fun h27 =>
  (gfd 6 14 h27 a0).bind fun v29 =>
  (ast h27 v29.toNat (w32 (q3.1 + 2)) x6).bind fun h38 =>
  (gfd 6 14 h38 a0).bind fun v40 =>
  (ast h38 v40.toNat (w32 (q3.1 + 3)) x7).bind fun h49 =>
  some h49 := by
  refine (congrArg asU (if_pos ho)).trans ?_
  show asU (Lim 168 0 [some (.inr (.inr a0)), some (.inl x1), some (.inl x2), some (.inl x3), some (.inl x4), some (.inl x5), some (.inl x6), some (.inl x7), none] [] h) = _
  refine A_iload_n d_168_0 rfl ?_
  refine A_iload_n d_168_1 rfl ?_
  refine A_iload_n d_168_2 rfl ?_
  refine A_call (t := 159) (way := 2) rfl d_168_3 rfl (cl kI_6_193 rfl) rfl (by decide) rfl (fun q3 => ?_)
  refine A_istore d_168_6 rfl ?_
  refine A_aload_n d_168_8 rfl ?_
  refine A_getfA rfl d_168_9 kF_6_37 (fun v9 => ?_)
  refine A_iload d_168_12 rfl ?_
  refine A_iload d_168_14 rfl ?_
  refine A_iast rfl d_168_16 (fun h16 => ?_)
  refine A_aload_n d_168_17 rfl ?_
  refine A_getfA rfl d_168_18 kF_6_37 (fun v18 => ?_)
  refine A_iload d_168_21 rfl ?_
  refine A_iconst d_168_23 (by decide) ?_
  refine A_iadd d_168_24 ?_
  refine A_iload d_168_25 rfl ?_
  refine A_iast rfl d_168_27 (fun h27 => ?_)
  refine A_aload_n d_168_28 rfl ?_
  refine A_getfA rfl d_168_29 kF_6_37 (fun v29 => ?_)
  refine A_iload d_168_32 rfl ?_
  refine A_iconst d_168_34 (by decide) ?_
  refine A_iadd d_168_35 ?_
  refine A_iload d_168_36 rfl ?_
  refine A_iast rfl d_168_38 (fun h38 => ?_)
  refine A_aload_n d_168_39 rfl ?_
  refine A_getfA rfl d_168_40 kF_6_37 (fun v40 => ?_)
  refine A_iload d_168_43 rfl ?_
  refine A_iconst d_168_45 (by decide) ?_
  refine A_iadd d_168_46 ?_
  refine A_iload d_168_47 rfl ?_
  refine A_iast rfl d_168_49 (fun h49 => ?_)
  exact A_ret rfl d_168_50
set_option maxRecDepth 20000 in
theorem q_Md_put_96 (a0 : Nat) (x1 : Int) (x2 : Int) (x3 : Int) (x4 : Int) (x5 : Int) (x6 : Int) (x7 : Int) (h : mH) : B_Md_put_96 a0 x1 x2 x3 x4 x5 x6 x7 h =
  (F_Md_known a0 h).bind fun h97 =>
  (gfd 6 14 h97 a0).bind fun v101 =>
  (ald 10 h97 v101.toNat x7).bind fun v106 =>
  (F_Md_writes a0 0 x1 x2 x3 x4 x5 x6 h97).bind fun h120 =>
  some (v106, h120) := by
  unfold B_Md_put_96
  refine A_aload_n d_169_96 rfl ?_
  refine A_callU (t := 167) (way := 0) rfl d_169_97 rfl (cl kI_6_199 rfl) rfl rfl rfl (fun h97 => ?_)
  refine A_aload_n d_169_100 rfl ?_
  refine A_getfA rfl d_169_101 kF_6_37 (fun v101 => ?_)
  refine A_iload d_169_104 rfl ?_
  refine A_iald rfl d_169_106 (fun v106 => ?_)
  refine A_istore d_169_107 rfl ?_
  refine A_aload_n d_169_109 rfl ?_
  refine A_iconst d_169_110 (by decide) ?_
  refine A_iload_n d_169_111 rfl ?_
  refine A_iload_n d_169_112 rfl ?_
  refine A_iload_n d_169_113 rfl ?_
  refine A_iload d_169_114 rfl ?_
  refine A_iload d_169_116 rfl ?_
  refine A_iload d_169_118 rfl ?_
  refine A_callU (t := 168) (way := 0) rfl d_169_120 rfl (cl kI_6_202 rfl) rfl rfl rfl (fun h120 => ?_)
  refine A_iload d_169_123 rfl ?_
  exact A_ireti rfl d_169_125
set_option maxRecDepth 20000 in
theorem q_Md_put (a0 : Nat) (x1 : Int) (x2 : Int) (x3 : Int) (x4 : Int) (x5 : Int) (x6 : Int) (h : mH) (ho : isO h a0 6 = true) : F_Md_put a0 x1 x2 x3 x4 x5 x6 h =
  (F_Md_isCode a0 x1 x2 h).bind fun q3 =>
  if q3.1 = 0 then
    (some ((-1), q3.2))
  else
    ((gfd 6 0 q3.2 a0).bind fun v17 =>
    (gfd 6 3 q3.2 a0).bind fun v21 =>
    (F_Md_mayBe x3 x4 x5 x6 v17 v21 q3.2).bind fun q24 =>
    if q24.1 ≠ 0 then
      ((F_Md_spot 0 x1 x2 q24.2).bind fun q35 =>
      (gfd 6 14 q35.2 a0).bind fun v41 =>
      (ald 10 q35.2 v41.toNat q35.1).bind fun v46 =>
      if v46 ≠ x3 then
        (B_Md_put_96 a0 x1 x2 x3 x4 x5 x6 q35.1 q35.2)
      else
        ((gfd 6 14 q35.2 a0).bind fun v52 =>
        (ald 10 q35.2 v52.toNat (w32 (q35.1 + 1))).bind fun v59 =>
        if v59 ≠ x4 then
          (B_Md_put_96 a0 x1 x2 x3 x4 x5 x6 q35.1 q35.2)
        else
          ((gfd 6 14 q35.2 a0).bind fun v66 =>
          (ald 10 q35.2 v66.toNat (w32 (q35.1 + 2))).bind fun v73 =>
          if v73 ≠ x5 then
            (B_Md_put_96 a0 x1 x2 x3 x4 x5 x6 q35.1 q35.2)
          else
            ((gfd 6 14 q35.2 a0).bind fun v80 =>
            (ald 10 q35.2 v80.toNat (w32 (q35.1 + 3))).bind fun v87 =>
            if v87 ≠ x6 then
              (B_Md_put_96 a0 x1 x2 x3 x4 x5 x6 q35.1 q35.2)
            else
              (some ((-2), q35.2))))))
    else
      (some ((-1), q24.2))) := by
  refine (congrArg asI (if_pos ho)).trans ?_
  show asI (Lim 169 0 [some (.inr (.inr a0)), some (.inl x1), some (.inl x2), some (.inl x3), some (.inl x4), some (.inl x5), some (.inl x6), none, none] [] h) = _
  refine A_aload_n d_169_0 rfl ?_
  refine A_iload_n d_169_1 rfl ?_
  refine A_iload_n d_169_2 rfl ?_
  refine A_call (t := 161) (way := 0) rfl d_169_3 rfl (cl kI_6_187 rfl) rfl (by decide) rfl (fun q3 => ?_)
  refine A_eq0 (t := 30) d_169_6 (by decide) ?_ ?_
  · refine A_iconst d_169_30 (by decide) ?_
    exact A_ireti rfl d_169_31
  · refine A_iload_n d_169_9 rfl ?_
    refine A_iload d_169_10 rfl ?_
    refine A_iload d_169_12 rfl ?_
    refine A_iload d_169_14 rfl ?_
    refine A_aload_n d_169_16 rfl ?_
    refine A_getfI rfl d_169_17 kF_6_90 (by decide) (fun v17 => ?_)
    refine A_aload_n d_169_20 rfl ?_
    refine A_getfI rfl d_169_21 kF_6_93 (by decide) (fun v21 => ?_)
    refine A_call (t := 154) (way := 2) rfl d_169_24 rfl (cl kI_6_147 rfl) rfl (by decide) rfl (fun q24 => ?_)
    refine A_ne0 (t := 32) d_169_27 (by decide) ?_ ?_
    · refine A_iconst d_169_32 (by decide) ?_
      refine A_iload_n d_169_33 rfl ?_
      refine A_iload_n d_169_34 rfl ?_
      refine A_call (t := 159) (way := 2) rfl d_169_35 rfl (cl kI_6_193 rfl) rfl (by decide) rfl (fun q35 => ?_)
      refine A_istore d_169_38 rfl ?_
      refine A_aload_n d_169_40 rfl ?_
      refine A_getfA rfl d_169_41 kF_6_37 (fun v41 => ?_)
      refine A_iload d_169_44 rfl ?_
      refine A_iald rfl d_169_46 (fun v46 => ?_)
      refine A_iload_n d_169_47 rfl ?_
      refine A_ne (t := 96) d_169_48 (by decide) ?_ ?_
      · exact rfl
      · refine A_aload_n d_169_51 rfl ?_
        refine A_getfA rfl d_169_52 kF_6_37 (fun v52 => ?_)
        refine A_iload d_169_55 rfl ?_
        refine A_iconst d_169_57 (by decide) ?_
        refine A_iadd d_169_58 ?_
        refine A_iald rfl d_169_59 (fun v59 => ?_)
        refine A_iload d_169_60 rfl ?_
        refine A_ne (t := 96) d_169_62 (by decide) ?_ ?_
        · exact rfl
        · refine A_aload_n d_169_65 rfl ?_
          refine A_getfA rfl d_169_66 kF_6_37 (fun v66 => ?_)
          refine A_iload d_169_69 rfl ?_
          refine A_iconst d_169_71 (by decide) ?_
          refine A_iadd d_169_72 ?_
          refine A_iald rfl d_169_73 (fun v73 => ?_)
          refine A_iload d_169_74 rfl ?_
          refine A_ne (t := 96) d_169_76 (by decide) ?_ ?_
          · exact rfl
          · refine A_aload_n d_169_79 rfl ?_
            refine A_getfA rfl d_169_80 kF_6_37 (fun v80 => ?_)
            refine A_iload d_169_83 rfl ?_
            refine A_iconst d_169_85 (by decide) ?_
            refine A_iadd d_169_86 ?_
            refine A_iald rfl d_169_87 (fun v87 => ?_)
            refine A_iload d_169_88 rfl ?_
            refine A_ne (t := 96) d_169_90 (by decide) ?_ ?_
            · exact rfl
            · refine A_bipush d_169_93 (by decide) ?_
              exact A_ireti rfl d_169_95
    · refine A_iconst d_169_30 (by decide) ?_
      exact A_ireti rfl d_169_31
set_option maxRecDepth 20000 in
theorem q_Md_add_80 (a0 : Nat) (x1 : Int) (x2 : Int) (x3 : Int) (x4 : Int) (x5 : Int) (x6 : Int) (x7 : Int) (h : mH) : B_Md_add_80 a0 x1 x2 x3 x4 x5 x6 x7 h =
  (F_Md_spot 0 x1 x2 h).bind fun q85 =>
  if x7 < q85.1 then
    ((F_Md_writes a0 0 x1 x2 x3 x4 x5 x6 q85.2).bind fun h124 =>
    (gfd 6 14 h124 a0).bind fun v128 =>
    (ald 10 h124 v128.toNat (w32 ((w32 (30 * x1)) + 5))).bind fun v138 =>
    (ast h124 v128.toNat (w32 ((w32 (30 * x1)) + 5)) (w32 (v138 + 1))).bind fun h141 =>
    (F_Md_many a0 0 x1 h141).bind fun q145 =>
    some (q145.1, q145.2))
  else
    ((gfd 6 14 q85.2 a0).bind fun v92 =>
    (gfd 6 14 q85.2 a0).bind fun v100 =>
    (ald 10 q85.2 v100.toNat x7).bind fun v105 =>
    (ast q85.2 v92.toNat (w32 (x7 + 4)) v105).bind fun h106 =>
    B_Md_add_80 a0 x1 x2 x3 x4 x5 x6 (w32 (x7 + (-1))) h106) := by
  unfold B_Md_add_80
  refine A_iload d_170_80 rfl ?_
  refine A_iconst d_170_82 (by decide) ?_
  refine A_iload_n d_170_83 rfl ?_
  refine A_iload_n d_170_84 rfl ?_
  refine A_call (t := 159) (way := 2) rfl d_170_85 rfl (cl kI_6_193 rfl) rfl (by decide) rfl (fun q85 => ?_)
  refine A_lt (t := 113) d_170_88 (by decide) ?_ ?_
  · refine A_aload_n d_170_113 rfl ?_
    refine A_iconst d_170_114 (by decide) ?_
    refine A_iload_n d_170_115 rfl ?_
    refine A_iload_n d_170_116 rfl ?_
    refine A_iload_n d_170_117 rfl ?_
    refine A_iload d_170_118 rfl ?_
    refine A_iload d_170_120 rfl ?_
    refine A_iload d_170_122 rfl ?_
    refine A_callU (t := 168) (way := 0) rfl d_170_124 rfl (cl kI_6_202 rfl) rfl rfl rfl (fun h124 => ?_)
    refine A_aload_n d_170_127 rfl ?_
    refine A_getfA rfl d_170_128 kF_6_37 (fun v128 => ?_)
    refine A_bipush d_170_131 (by decide) ?_
    refine A_iload_n d_170_133 rfl ?_
    refine A_imul d_170_134 ?_
    refine A_iconst d_170_135 (by decide) ?_
    refine A_iadd d_170_136 ?_
    refine A_dup2 d_170_137 ⟨rfl, rfl⟩ ?_
    refine A_iald rfl d_170_138 (fun v138 => ?_)
    refine A_iconst d_170_139 (by decide) ?_
    refine A_iadd d_170_140 ?_
    refine A_iast rfl d_170_141 (fun h141 => ?_)
    refine A_aload_n d_170_142 rfl ?_
    refine A_iconst d_170_143 (by decide) ?_
    refine A_iload_n d_170_144 rfl ?_
    refine A_call (t := 160) (way := 0) rfl d_170_145 rfl (cl kI_6_176 rfl) rfl (by decide) rfl (fun q145 => ?_)
    exact A_ireti rfl d_170_148
  · refine A_aload_n d_170_91 rfl ?_
    refine A_getfA rfl d_170_92 kF_6_37 (fun v92 => ?_)
    refine A_iload d_170_95 rfl ?_
    refine A_iconst d_170_97 (by decide) ?_
    refine A_iadd d_170_98 ?_
    refine A_aload_n d_170_99 rfl ?_
    refine A_getfA rfl d_170_100 kF_6_37 (fun v100 => ?_)
    refine A_iload d_170_103 rfl ?_
    refine A_iald rfl d_170_105 (fun v105 => ?_)
    refine A_iast rfl d_170_106 (fun h106 => ?_)
    refine A_iinc d_170_107 (by decide) rfl rfl ?_
    refine A_goto (t := 80) d_170_110 (by decide) ?_
    exact rfl
set_option maxRecDepth 20000 in
theorem q_Md_add (a0 : Nat) (x1 : Int) (x2 : Int) (x3 : Int) (x4 : Int) (x5 : Int) (x6 : Int) (h : mH) (ho : isO h a0 6 = true) : F_Md_add a0 x1 x2 x3 x4 x5 x6 h =
  (F_Md_isLabel a0 x1 h).bind fun q2 =>
  if q2.1 = 0 then
    (some ((-1), q2.2))
  else
    ((F_Md_many a0 0 x1 q2.2).bind fun q14 =>
    (F_Md_in x2 0 q14.1 q14.2).bind fun q18 =>
    if q18.1 = 0 then
      (some ((-1), q18.2))
    else
      ((gfd 6 0 q18.2 a0).bind fun v32 =>
      (gfd 6 3 q18.2 a0).bind fun v36 =>
      (F_Md_mayBe x3 x4 x5 x6 v32 v36 q18.2).bind fun q39 =>
      if q39.1 ≠ 0 then
        ((F_Md_many a0 0 x1 q39.2).bind fun q50 =>
        if q50.1 ≠ 6 then
          ((F_Md_known a0 q50.2).bind fun h62 =>
          (F_Md_many a0 0 x1 h62).bind fun q70 =>
          (F_Md_spot 0 x1 q70.1 q70.2).bind fun q73 =>
          B_Md_add_80 a0 x1 x2 x3 x4 x5 x6 (w32 (q73.1 - 1)) q73.2)
        else
          (some ((-3), q50.2)))
      else
        (some ((-1), q39.2)))) := by
  refine (congrArg asI (if_pos ho)).trans ?_
  show asI (Lim 170 0 [some (.inr (.inr a0)), some (.inl x1), some (.inl x2), some (.inl x3), some (.inl x4), some (.inl x5), some (.inl x6), none] [] h) = _
  refine A_aload_n d_170_0 rfl ?_
  refine A_iload_n d_170_1 rfl ?_
  refine A_call (t := 158) (way := 0) rfl d_170_2 rfl (cl kI_6_172 rfl) rfl (by decide) rfl (fun q2 => ?_)
  refine A_eq0 (t := 45) d_170_5 (by decide) ?_ ?_
  · refine A_iconst d_170_45 (by decide) ?_
    exact A_ireti rfl d_170_46
  · refine A_iload_n d_170_8 rfl ?_
    refine A_i2l d_170_9 ?_
    refine A_lconst d_170_10 (x := 0) rfl ?_
    refine A_aload_n d_170_11 rfl ?_
    refine A_iconst d_170_12 (by decide) ?_
    refine A_iload_n d_170_13 rfl ?_
    refine A_call (t := 160) (way := 0) rfl d_170_14 rfl (cl kI_6_176 rfl) rfl (by decide) rfl (fun q14 => ?_)
    refine A_i2l d_170_17 ?_
    refine A_call (t := 135) (way := 2) rfl d_170_18 rfl (cl kI_6_106 rfl) rfl (by decide) rfl (fun q18 => ?_)
    refine A_eq0 (t := 45) d_170_21 (by decide) ?_ ?_
    · refine A_iconst d_170_45 (by decide) ?_
      exact A_ireti rfl d_170_46
    · refine A_iload_n d_170_24 rfl ?_
      refine A_iload d_170_25 rfl ?_
      refine A_iload d_170_27 rfl ?_
      refine A_iload d_170_29 rfl ?_
      refine A_aload_n d_170_31 rfl ?_
      refine A_getfI rfl d_170_32 kF_6_90 (by decide) (fun v32 => ?_)
      refine A_aload_n d_170_35 rfl ?_
      refine A_getfI rfl d_170_36 kF_6_93 (by decide) (fun v36 => ?_)
      refine A_call (t := 154) (way := 2) rfl d_170_39 rfl (cl kI_6_147 rfl) rfl (by decide) rfl (fun q39 => ?_)
      refine A_ne0 (t := 47) d_170_42 (by decide) ?_ ?_
      · refine A_aload_n d_170_47 rfl ?_
        refine A_iconst d_170_48 (by decide) ?_
        refine A_iload_n d_170_49 rfl ?_
        refine A_call (t := 160) (way := 0) rfl d_170_50 rfl (cl kI_6_176 rfl) rfl (by decide) rfl (fun q50 => ?_)
        refine A_bipush d_170_53 (by decide) ?_
        refine A_ne (t := 61) d_170_55 (by decide) ?_ ?_
        · refine A_aload_n d_170_61 rfl ?_
          refine A_callU (t := 167) (way := 0) rfl d_170_62 rfl (cl kI_6_199 rfl) rfl rfl rfl (fun h62 => ?_)
          refine A_iconst d_170_65 (by decide) ?_
          refine A_iload_n d_170_66 rfl ?_
          refine A_aload_n d_170_67 rfl ?_
          refine A_iconst d_170_68 (by decide) ?_
          refine A_iload_n d_170_69 rfl ?_
          refine A_call (t := 160) (way := 0) rfl d_170_70 rfl (cl kI_6_176 rfl) rfl (by decide) rfl (fun q70 => ?_)
          refine A_call (t := 159) (way := 2) rfl d_170_73 rfl (cl kI_6_193 rfl) rfl (by decide) rfl (fun q73 => ?_)
          refine A_iconst d_170_76 (by decide) ?_
          refine A_isub d_170_77 ?_
          refine A_istore d_170_78 rfl ?_
          exact rfl
        · refine A_bipush d_170_58 (by decide) ?_
          exact A_ireti rfl d_170_60
      · refine A_iconst d_170_45 (by decide) ?_
        exact A_ireti rfl d_170_46
set_option maxRecDepth 20000 in
theorem q_Md_cut_22 (a0 : Nat) (x1 : Int) (x2 : Int) (x3 : Int) (h : mH) : B_Md_cut_22 a0 x1 x2 x3 h =
  (F_Md_many a0 0 x1 h).bind fun q28 =>
  (F_Md_spot 0 x1 q28.1 q28.2).bind fun q31 =>
  if w32 (q31.1 - 4) ≤ x3 then
    ((gfd 6 14 q31.2 a0).bind fun v60 =>
    (ald 10 q31.2 v60.toNat (w32 ((w32 (30 * x1)) + 5))).bind fun v70 =>
    (ast q31.2 v60.toNat (w32 ((w32 (30 * x1)) + 5)) (w32 (v70 - 1))).bind fun h73 =>
    (F_Md_many a0 0 x1 h73).bind fun q77 =>
    some (q77.1, q77.2))
  else
    ((gfd 6 14 q31.2 a0).bind fun v40 =>
    (gfd 6 14 q31.2 a0).bind fun v45 =>
    (ald 10 q31.2 v45.toNat (w32 (x3 + 4))).bind fun v51 =>
    (ast q31.2 v40.toNat x3 v51).bind fun h52 =>
    B_Md_cut_22 a0 x1 x2 (w32 (x3 + 1)) h52) := by
  unfold B_Md_cut_22
  refine A_iload_n d_171_22 rfl ?_
  refine A_iconst d_171_23 (by decide) ?_
  refine A_iload_n d_171_24 rfl ?_
  refine A_aload_n d_171_25 rfl ?_
  refine A_iconst d_171_26 (by decide) ?_
  refine A_iload_n d_171_27 rfl ?_
  refine A_call (t := 160) (way := 0) rfl d_171_28 rfl (cl kI_6_176 rfl) rfl (by decide) rfl (fun q28 => ?_)
  refine A_call (t := 159) (way := 2) rfl d_171_31 rfl (cl kI_6_193 rfl) rfl (by decide) rfl (fun q31 => ?_)
  refine A_iconst d_171_34 (by decide) ?_
  refine A_isub d_171_35 ?_
  refine A_ge (t := 59) d_171_36 (by decide) ?_ ?_
  · refine A_aload_n d_171_59 rfl ?_
    refine A_getfA rfl d_171_60 kF_6_37 (fun v60 => ?_)
    refine A_bipush d_171_63 (by decide) ?_
    refine A_iload_n d_171_65 rfl ?_
    refine A_imul d_171_66 ?_
    refine A_iconst d_171_67 (by decide) ?_
    refine A_iadd d_171_68 ?_
    refine A_dup2 d_171_69 ⟨rfl, rfl⟩ ?_
    refine A_iald rfl d_171_70 (fun v70 => ?_)
    refine A_iconst d_171_71 (by decide) ?_
    refine A_isub d_171_72 ?_
    refine A_iast rfl d_171_73 (fun h73 => ?_)
    refine A_aload_n d_171_74 rfl ?_
    refine A_iconst d_171_75 (by decide) ?_
    refine A_iload_n d_171_76 rfl ?_
    refine A_call (t := 160) (way := 0) rfl d_171_77 rfl (cl kI_6_176 rfl) rfl (by decide) rfl (fun q77 => ?_)
    exact A_ireti rfl d_171_80
  · refine A_aload_n d_171_39 rfl ?_
    refine A_getfA rfl d_171_40 kF_6_37 (fun v40 => ?_)
    refine A_iload_n d_171_43 rfl ?_
    refine A_aload_n d_171_44 rfl ?_
    refine A_getfA rfl d_171_45 kF_6_37 (fun v45 => ?_)
    refine A_iload_n d_171_48 rfl ?_
    refine A_iconst d_171_49 (by decide) ?_
    refine A_iadd d_171_50 ?_
    refine A_iald rfl d_171_51 (fun v51 => ?_)
    refine A_iast rfl d_171_52 (fun h52 => ?_)
    refine A_iinc d_171_53 (by decide) rfl rfl ?_
    refine A_goto (t := 22) d_171_56 (by decide) ?_
    exact rfl
set_option maxRecDepth 20000 in
theorem q_Md_cut (a0 : Nat) (x1 : Int) (x2 : Int) (h : mH) (ho : isO h a0 6 = true) : F_Md_cut a0 x1 x2 h =
  (F_Md_isCode a0 x1 x2 h).bind fun q3 =>
  if q3.1 ≠ 0 then
    ((F_Md_known a0 q3.2).bind fun h12 =>
    (F_Md_spot 0 x1 x2 h12).bind fun q18 =>
    B_Md_cut_22 a0 x1 x2 q18.1 q18.2)
  else
    (some ((-1), q3.2)) := by
  refine (congrArg asI (if_pos ho)).trans ?_
  show asI (Lim 171 0 [some (.inr (.inr a0)), some (.inl x1), some (.inl x2), none] [] h) = _
  refine A_aload_n d_171_0 rfl ?_
  refine A_iload_n d_171_1 rfl ?_
  refine A_iload_n d_171_2 rfl ?_
  refine A_call (t := 161) (way := 0) rfl d_171_3 rfl (cl kI_6_187 rfl) rfl (by decide) rfl (fun q3 => ?_)
  refine A_ne0 (t := 11) d_171_6 (by decide) ?_ ?_
  · refine A_aload_n d_171_11 rfl ?_
    refine A_callU (t := 167) (way := 0) rfl d_171_12 rfl (cl kI_6_199 rfl) rfl rfl rfl (fun h12 => ?_)
    refine A_iconst d_171_15 (by decide) ?_
    refine A_iload_n d_171_16 rfl ?_
    refine A_iload_n d_171_17 rfl ?_
    refine A_call (t := 159) (way := 2) rfl d_171_18 rfl (cl kI_6_193 rfl) rfl (by decide) rfl (fun q18 => ?_)
    refine A_istore_n d_171_21 rfl ?_
    exact rfl
  · refine A_iconst d_171_9 (by decide) ?_
    exact A_ireti rfl d_171_10
set_option maxRecDepth 20000 in
theorem q_Md_want (a0 : Nat) (x1 : Int) (x2 : Int) (x3 : Int) (h : mH) (ho : isO h a0 6 = true) : F_Md_want a0 x1 x2 x3 h =
  (F_Md_isLabel a0 x1 h).bind fun q2 =>
  if q2.1 = 0 then
    (some ((-1), q2.2))
  else
    ((F_Md_in x2 0 3 q2.2).bind fun q14 =>
    if q14.1 = 0 then
      (some ((-1), q14.2))
    else
      ((F_Md_isType a0 x3 q14.2).bind fun q22 =>
      if q22.1 ≠ 0 then
        ((gfd 6 14 q22.2 a0).bind fun v31 =>
        (ald 10 q22.2 v31.toNat (w32 ((w32 (30 * x1)) + x2))).bind fun v40 =>
        if v40 ≠ x3 then
          ((F_Md_known a0 q22.2).bind fun h49 =>
          (gfd 6 14 h49 a0).bind fun v53 =>
          (ald 10 h49 v53.toNat (w32 ((w32 (30 * x1)) + x2))).bind fun v62 =>
          (gfd 6 14 h49 a0).bind fun v66 =>
          (ast h49 v66.toNat (w32 ((w32 (30 * x1)) + x2)) x3).bind fun h76 =>
          some (v62, h76))
        else
          (some ((-2), q22.2)))
      else
        (some ((-1), q22.2)))) := by
  refine (congrArg asI (if_pos ho)).trans ?_
  show asI (Lim 172 0 [some (.inr (.inr a0)), some (.inl x1), some (.inl x2), some (.inl x3), none] [] h) = _
  refine A_aload_n d_172_0 rfl ?_
  refine A_iload_n d_172_1 rfl ?_
  refine A_call (t := 158) (way := 0) rfl d_172_2 rfl (cl kI_6_172 rfl) rfl (by decide) rfl (fun q2 => ?_)
  refine A_eq0 (t := 28) d_172_5 (by decide) ?_ ?_
  · refine A_iconst d_172_28 (by decide) ?_
    exact A_ireti rfl d_172_29
  · refine A_iload_n d_172_8 rfl ?_
    refine A_i2l d_172_9 ?_
    refine A_lconst d_172_10 (x := 0) rfl ?_
    refine A_ldc2 d_172_11 kJ_6_191 ?_
    refine A_call (t := 135) (way := 2) rfl d_172_14 rfl (cl kI_6_106 rfl) rfl (by decide) rfl (fun q14 => ?_)
    refine A_eq0 (t := 28) d_172_17 (by decide) ?_ ?_
    · refine A_iconst d_172_28 (by decide) ?_
      exact A_ireti rfl d_172_29
    · refine A_aload_n d_172_20 rfl ?_
      refine A_iload_n d_172_21 rfl ?_
      refine A_call (t := 162) (way := 0) rfl d_172_22 rfl (cl kI_6_206 rfl) rfl (by decide) rfl (fun q22 => ?_)
      refine A_ne0 (t := 30) d_172_25 (by decide) ?_ ?_
      · refine A_aload_n d_172_30 rfl ?_
        refine A_getfA rfl d_172_31 kF_6_37 (fun v31 => ?_)
        refine A_bipush d_172_34 (by decide) ?_
        refine A_iload_n d_172_36 rfl ?_
        refine A_imul d_172_37 ?_
        refine A_iload_n d_172_38 rfl ?_
        refine A_iadd d_172_39 ?_
        refine A_iald rfl d_172_40 (fun v40 => ?_)
        refine A_iload_n d_172_41 rfl ?_
        refine A_ne (t := 48) d_172_42 (by decide) ?_ ?_
        · refine A_aload_n d_172_48 rfl ?_
          refine A_callU (t := 167) (way := 0) rfl d_172_49 rfl (cl kI_6_199 rfl) rfl rfl rfl (fun h49 => ?_)
          refine A_aload_n d_172_52 rfl ?_
          refine A_getfA rfl d_172_53 kF_6_37 (fun v53 => ?_)
          refine A_bipush d_172_56 (by decide) ?_
          refine A_iload_n d_172_58 rfl ?_
          refine A_imul d_172_59 ?_
          refine A_iload_n d_172_60 rfl ?_
          refine A_iadd d_172_61 ?_
          refine A_iald rfl d_172_62 (fun v62 => ?_)
          refine A_istore d_172_63 rfl ?_
          refine A_aload_n d_172_65 rfl ?_
          refine A_getfA rfl d_172_66 kF_6_37 (fun v66 => ?_)
          refine A_bipush d_172_69 (by decide) ?_
          refine A_iload_n d_172_71 rfl ?_
          refine A_imul d_172_72 ?_
          refine A_iload_n d_172_73 rfl ?_
          refine A_iadd d_172_74 ?_
          refine A_iload_n d_172_75 rfl ?_
          refine A_iast rfl d_172_76 (fun h76 => ?_)
          refine A_iload d_172_77 rfl ?_
          exact A_ireti rfl d_172_79
        · refine A_bipush d_172_45 (by decide) ?_
          exact A_ireti rfl d_172_47
      · refine A_iconst d_172_28 (by decide) ?_
        exact A_ireti rfl d_172_29
set_option maxRecDepth 20000 in
theorem q_Md_below (a0 : Nat) (x1 : Int) (x2 : Int) (h : mH) (ho : isO h a0 6 = true) : F_Md_below a0 x1 x2 h =
  (F_Md_isLabel a0 x1 h).bind fun q2 =>
  if q2.1 = 0 then
    (some ((-1), q2.2))
  else
    ((F_Md_in x2 0 1 q2.2).bind fun q12 =>
    if q12.1 ≠ 0 then
      ((gfd 6 14 q12.2 a0).bind fun v21 =>
      (ald 10 q12.2 v21.toNat (w32 ((w32 (30 * x1)) + 4))).bind fun v30 =>
      if v30 ≠ x2 then
        ((F_Md_known a0 q12.2).bind fun h39 =>
        (gfd 6 14 h39 a0).bind fun v43 =>
        (ast h39 v43.toNat (w32 ((w32 (30 * x1)) + 4)) x2).bind fun h53 =>
        some (1, h53))
      else
        (some ((-2), q12.2)))
    else
      (some ((-1), q12.2))) := by
  refine (congrArg asI (if_pos ho)).trans ?_
  show asI (Lim 173 0 [some (.inr (.inr a0)), some (.inl x1), some (.inl x2)] [] h) = _
  refine A_aload_n d_173_0 rfl ?_
  refine A_iload_n d_173_1 rfl ?_
  refine A_call (t := 158) (way := 0) rfl d_173_2 rfl (cl kI_6_172 rfl) rfl (by decide) rfl (fun q2 => ?_)
  refine A_eq0 (t := 18) d_173_5 (by decide) ?_ ?_
  · refine A_iconst d_173_18 (by decide) ?_
    exact A_ireti rfl d_173_19
  · refine A_iload_n d_173_8 rfl ?_
    refine A_i2l d_173_9 ?_
    refine A_lconst d_173_10 (x := 0) rfl ?_
    refine A_lconst d_173_11 (x := 1) rfl ?_
    refine A_call (t := 135) (way := 2) rfl d_173_12 rfl (cl kI_6_106 rfl) rfl (by decide) rfl (fun q12 => ?_)
    refine A_ne0 (t := 20) d_173_15 (by decide) ?_ ?_
    · refine A_aload_n d_173_20 rfl ?_
      refine A_getfA rfl d_173_21 kF_6_37 (fun v21 => ?_)
      refine A_bipush d_173_24 (by decide) ?_
      refine A_iload_n d_173_26 rfl ?_
      refine A_imul d_173_27 ?_
      refine A_iconst d_173_28 (by decide) ?_
      refine A_iadd d_173_29 ?_
      refine A_iald rfl d_173_30 (fun v30 => ?_)
      refine A_iload_n d_173_31 rfl ?_
      refine A_ne (t := 38) d_173_32 (by decide) ?_ ?_
      · refine A_aload_n d_173_38 rfl ?_
        refine A_callU (t := 167) (way := 0) rfl d_173_39 rfl (cl kI_6_199 rfl) rfl rfl rfl (fun h39 => ?_)
        refine A_aload_n d_173_42 rfl ?_
        refine A_getfA rfl d_173_43 kF_6_37 (fun v43 => ?_)
        refine A_bipush d_173_46 (by decide) ?_
        refine A_iload_n d_173_48 rfl ?_
        refine A_imul d_173_49 ?_
        refine A_iconst d_173_50 (by decide) ?_
        refine A_iadd d_173_51 ?_
        refine A_iload_n d_173_52 rfl ?_
        refine A_iast rfl d_173_53 (fun h53 => ?_)
        refine A_iconst d_173_54 (by decide) ?_
        exact A_ireti rfl d_173_55
      · refine A_bipush d_173_35 (by decide) ?_
        exact A_ireti rfl d_173_37
    · refine A_iconst d_173_18 (by decide) ?_
      exact A_ireti rfl d_173_19
set_option maxRecDepth 20000 in
theorem q_Md_undo (a0 : Nat) (h : mH) (ho : isO h a0 6 = true) : F_Md_undo a0 h =
  (gfd 6 15 h a0).bind fun v1 =>
  if v1 ≠ 0 then
    ((gfd 6 15 h a0).bind fun v12 =>
    (F_Md_copies a0 (w32 (v12 * 120)) 0 h).bind fun h19 =>
    (gfd 6 15 h19 a0).bind fun v24 =>
    (pfd 6 15 h19 a0 (w32 (v24 - 1))).bind fun h29 =>
    (gfd 6 15 h29 a0).bind fun v33 =>
    some (v33, h29))
  else
    (some ((-2), h)) := by
  refine (congrArg asI (if_pos ho)).trans ?_
  show asI (Lim 174 0 [some (.inr (.inr a0))] [] h) = _
  refine A_aload_n d_174_0 rfl ?_
  refine A_getfI rfl d_174_1 kF_6_96 (by decide) (fun v1 => ?_)
  refine A_ne0 (t := 10) d_174_4 (by decide) ?_ ?_
  · refine A_aload_n d_174_10 rfl ?_
    refine A_aload_n d_174_11 rfl ?_
    refine A_getfI rfl d_174_12 kF_6_96 (by decide) (fun v12 => ?_)
    refine A_bipush d_174_15 (by decide) ?_
    refine A_imul d_174_17 ?_
    refine A_iconst d_174_18 (by decide) ?_
    refine A_callU (t := 166) (way := 0) rfl d_174_19 rfl (cl kI_6_196 rfl) rfl rfl rfl (fun h19 => ?_)
    refine A_aload_n d_174_22 rfl ?_
    refine A_dup d_174_23 rfl ?_
    refine A_getfI rfl d_174_24 kF_6_96 (by decide) (fun v24 => ?_)
    refine A_iconst d_174_27 (by decide) ?_
    refine A_isub d_174_28 ?_
    refine A_putfI rfl d_174_29 kF_6_96 rfl (fun h29 => ?_)
    refine A_aload_n d_174_32 rfl ?_
    refine A_getfI rfl d_174_33 kF_6_96 (by decide) (fun v33 => ?_)
    exact A_ireti rfl d_174_36
  · refine A_bipush d_174_7 (by decide) ?_
    exact A_ireti rfl d_174_9
set_option maxRecDepth 20000 in
theorem q_Md_joinsFlat_63 (a0 : Nat) (x1 : Int) (x2 : Int) (x3 : Int) (h : mH) : B_Md_joinsFlat_63 a0 x1 x2 x3 h =
  B_Md_joinsFlat_68 a0 x1 x2 x3 1 h := by
  unfold B_Md_joinsFlat_63
  refine A_iconst d_175_63 (by decide) ?_
  refine A_goto (t := 68) d_175_64 (by decide) ?_
  exact rfl
set_option maxRecDepth 20000 in
theorem q_Md_joinsFlat_67 (a0 : Nat) (x1 : Int) (x2 : Int) (x3 : Int) (h : mH) : B_Md_joinsFlat_67 a0 x1 x2 x3 h =
  B_Md_joinsFlat_68 a0 x1 x2 x3 0 h := by
  unfold B_Md_joinsFlat_67
  refine A_iconst d_175_67 (by decide) ?_
  exact rfl
set_option maxRecDepth 20000 in
theorem q_Md_joinsFlat_68 (a0 : Nat) (x1 : Int) (x2 : Int) (x3 : Int) (s0 : Int) (h : mH) : B_Md_joinsFlat_68 a0 x1 x2 x3 s0 h =
  B_Md_joinsFlat_73 a0 x1 x2 x3 s0 0 none h := by
  unfold B_Md_joinsFlat_68
  refine A_istore d_175_68 rfl ?_
  refine A_iconst d_175_70 (by decide) ?_
  refine A_istore d_175_71 rfl ?_
  exact rfl
set_option maxRecDepth 20000 in
theorem q_Md_joinsFlat_73 (a0 : Nat) (x1 : Int) (x2 : Int) (x3 : Int) (x4 : Int) (x5 : Int) (o6 : Option mV) (h : mH) : B_Md_joinsFlat_73 a0 x1 x2 x3 x4 x5 o6 h =
  if 4 ≤ x5 then
    (B_Md_joinsFlat_140 a0 x1 x2 x3 x4 0 o6 h)
  else
    ((gfd 6 14 h a0).bind fun v80 =>
    (ald 10 h v80.toNat (w32 ((w32 (x1 + (w32 (30 * x3)))) + x5))).bind fun v92 =>
    if x4 = 0 then
      (B_Md_joinsFlat_128 a0 x1 x2 x3 x4 x5 v92 h)
    else
      (if v92 = 0 then
        (B_Md_joinsFlat_124 a0 x1 x2 x3 x4 x5 v92 h)
      else
        ((gfd 6 14 h a0).bind fun v108 =>
        (ald 10 h v108.toNat (w32 ((w32 (x1 + (w32 (30 * x2)))) + x5))).bind fun v120 =>
        if v92 ≠ v120 then
          (B_Md_joinsFlat_128 a0 x1 x2 x3 x4 x5 v92 h)
        else
          (B_Md_joinsFlat_124 a0 x1 x2 x3 x4 x5 v92 h)))) := by
  unfold B_Md_joinsFlat_73
  refine A_iload d_175_73 rfl ?_
  refine A_iconst d_175_75 (by decide) ?_
  refine A_ge (t := 137) d_175_76 (by decide) ?_ ?_
  · refine A_iconst d_175_137 (by decide) ?_
    refine A_istore d_175_138 rfl ?_
    exact rfl
  · refine A_aload_n d_175_79 rfl ?_
    refine A_getfA rfl d_175_80 kF_6_37 (fun v80 => ?_)
    refine A_iload_n d_175_83 rfl ?_
    refine A_bipush d_175_84 (by decide) ?_
    refine A_iload_n d_175_86 rfl ?_
    refine A_imul d_175_87 ?_
    refine A_iadd d_175_88 ?_
    refine A_iload d_175_89 rfl ?_
    refine A_iadd d_175_91 ?_
    refine A_iald rfl d_175_92 (fun v92 => ?_)
    refine A_istore d_175_93 rfl ?_
    refine A_iload d_175_95 rfl ?_
    refine A_eq0 (t := 128) d_175_97 (by decide) ?_ ?_
    · exact rfl
    · refine A_iload d_175_100 rfl ?_
      refine A_eq0 (t := 124) d_175_102 (by decide) ?_ ?_
      · exact rfl
      · refine A_iload d_175_105 rfl ?_
        refine A_aload_n d_175_107 rfl ?_
        refine A_getfA rfl d_175_108 kF_6_37 (fun v108 => ?_)
        refine A_iload_n d_175_111 rfl ?_
        refine A_bipush d_175_112 (by decide) ?_
        refine A_iload_n d_175_114 rfl ?_
        refine A_imul d_175_115 ?_
        refine A_iadd d_175_116 ?_
        refine A_iload d_175_117 rfl ?_
        refine A_iadd d_175_119 ?_
        refine A_iald rfl d_175_120 (fun v120 => ?_)
        refine A_ne (t := 128) d_175_121 (by decide) ?_ ?_
        · exact rfl
        · exact rfl
set_option maxRecDepth 20000 in
theorem q_Md_joinsFlat_124 (a0 : Nat) (x1 : Int) (x2 : Int) (x3 : Int) (x4 : Int) (x5 : Int) (x6 : Int) (h : mH) : B_Md_joinsFlat_124 a0 x1 x2 x3 x4 x5 x6 h =
  B_Md_joinsFlat_129 a0 x1 x2 x3 x4 x5 x6 1 h := by
  unfold B_Md_joinsFlat_124
  refine A_iconst d_175_124 (by decide) ?_
  refine A_goto (t := 129) d_175_125 (by decide) ?_
  exact rfl
set_option maxRecDepth 20000 in
theorem q_Md_joinsFlat_128 (a0 : Nat) (x1 : Int) (x2 : Int) (x3 : Int) (x4 : Int) (x5 : Int) (x6 : Int) (h : mH) : B_Md_joinsFlat_128 a0 x1 x2 x3 x4 x5 x6 h =
  B_Md_joinsFlat_129 a0 x1 x2 x3 x4 x5 x6 0 h := by
  unfold B_Md_joinsFlat_128
  refine A_iconst d_175_128 (by decide) ?_
  exact rfl
set_option maxRecDepth 20000 in
theorem q_Md_joinsFlat_129 (a0 : Nat) (x1 : Int) (x2 : Int) (x3 : Int) (x4 : Int) (x5 : Int) (x6 : Int) (s0 : Int) (h : mH) : B_Md_joinsFlat_129 a0 x1 x2 x3 x4 x5 x6 s0 h =
  B_Md_joinsFlat_73 a0 x1 x2 x3 s0 (w32 (x5 + 1)) (some (.inl x6)) h := by
  unfold B_Md_joinsFlat_129
  refine A_istore d_175_129 rfl ?_
  refine A_iinc d_175_131 (by decide) rfl rfl ?_
  refine A_goto (t := 73) d_175_134 (by decide) ?_
  exact rfl
set_option maxRecDepth 20000 in
theorem q_Md_joinsFlat_140 (a0 : Nat) (x1 : Int) (x2 : Int) (x3 : Int) (x4 : Int) (x5 : Int) (o6 : Option mV) (h : mH) : B_Md_joinsFlat_140 a0 x1 x2 x3 x4 x5 o6 h =
  (gfd 6 4 h a0).bind fun v143 =>
  (ald 10 h v143.toNat x3).bind fun v147 =>
  if v147 ≤ x5 then
    (rz x4 h)
  else
    (if x4 = 0 then
      (rz x4 h)
    else
      ((gfd 6 5 h a0).bind fun v157 =>
      (ald 10 h v157.toNat (w32 ((w32 (3 * x3)) + x5))).bind fun v166 =>
      if v166 = 0 then
        (B_Md_joinsFlat_195 a0 x1 x2 x3 x4 x5 o6 h)
      else
        ((gfd 6 5 h a0).bind fun v171 =>
        (ald 10 h v171.toNat (w32 ((w32 (3 * x3)) + x5))).bind fun v180 =>
        (gfd 6 5 h a0).bind fun v182 =>
        (ald 10 h v182.toNat (w32 ((w32 (3 * x2)) + x5))).bind fun v191 =>
        if v180 ≠ v191 then
          (B_Md_joinsFlat_200 a0 x1 x2 x3 x4 x5 o6 0 h)
        else
          (B_Md_joinsFlat_195 a0 x1 x2 x3 x4 x5 o6 h)))) := by
  unfold B_Md_joinsFlat_140
  refine A_iload d_175_140 rfl ?_
  refine A_aload_n d_175_142 rfl ?_
  refine A_getfA rfl d_175_143 kF_6_16 (fun v143 => ?_)
  refine A_iload_n d_175_146 rfl ?_
  refine A_iald rfl d_175_147 (fun v147 => ?_)
  refine A_ge (t := 208) d_175_148 (by decide) ?_ ?_
  · refine A_iload d_175_208 rfl ?_
    exact A_iretb rfl d_175_210
  · refine A_iload d_175_151 rfl ?_
    refine A_eq0 (t := 208) d_175_153 (by decide) ?_ ?_
    · refine A_iload d_175_208 rfl ?_
      exact A_iretb rfl d_175_210
    · refine A_aload_n d_175_156 rfl ?_
      refine A_getfA rfl d_175_157 kF_6_19 (fun v157 => ?_)
      refine A_iconst d_175_160 (by decide) ?_
      refine A_iload_n d_175_161 rfl ?_
      refine A_imul d_175_162 ?_
      refine A_iload d_175_163 rfl ?_
      refine A_iadd d_175_165 ?_
      refine A_iald rfl d_175_166 (fun v166 => ?_)
      refine A_eq0 (t := 195) d_175_167 (by decide) ?_ ?_
      · exact rfl
      · refine A_aload_n d_175_170 rfl ?_
        refine A_getfA rfl d_175_171 kF_6_19 (fun v171 => ?_)
        refine A_iconst d_175_174 (by decide) ?_
        refine A_iload_n d_175_175 rfl ?_
        refine A_imul d_175_176 ?_
        refine A_iload d_175_177 rfl ?_
        refine A_iadd d_175_179 ?_
        refine A_iald rfl d_175_180 (fun v180 => ?_)
        refine A_aload_n d_175_181 rfl ?_
        refine A_getfA rfl d_175_182 kF_6_19 (fun v182 => ?_)
        refine A_iconst d_175_185 (by decide) ?_
        refine A_iload_n d_175_186 rfl ?_
        refine A_imul d_175_187 ?_
        refine A_iload d_175_188 rfl ?_
        refine A_iadd d_175_190 ?_
        refine A_iald rfl d_175_191 (fun v191 => ?_)
        refine A_ne (t := 199) d_175_192 (by decide) ?_ ?_
        · refine A_iconst d_175_199 (by decide) ?_
          exact rfl
        · exact rfl
set_option maxRecDepth 20000 in
theorem q_Md_joinsFlat_195 (a0 : Nat) (x1 : Int) (x2 : Int) (x3 : Int) (x4 : Int) (x5 : Int) (o6 : Option mV) (h : mH) : B_Md_joinsFlat_195 a0 x1 x2 x3 x4 x5 o6 h =
  B_Md_joinsFlat_200 a0 x1 x2 x3 x4 x5 o6 1 h := by
  unfold B_Md_joinsFlat_195
  refine A_iconst d_175_195 (by decide) ?_
  refine A_goto (t := 200) d_175_196 (by decide) ?_
  exact rfl
set_option maxRecDepth 20000 in
theorem q_Md_joinsFlat_200 (a0 : Nat) (x1 : Int) (x2 : Int) (x3 : Int) (x4 : Int) (x5 : Int) (o6 : Option mV) (s0 : Int) (h : mH) : B_Md_joinsFlat_200 a0 x1 x2 x3 x4 x5 o6 s0 h =
  B_Md_joinsFlat_140 a0 x1 x2 x3 s0 (w32 (x5 + 1)) o6 h := by
  unfold B_Md_joinsFlat_200
  refine A_istore d_175_200 rfl ?_
  refine A_iinc d_175_202 (by decide) rfl rfl ?_
  refine A_goto (t := 140) d_175_205 (by decide) ?_
  exact rfl
set_option maxRecDepth 20000 in
theorem q_Md_joinsFlat (a0 : Nat) (x1 : Int) (x2 : Int) (x3 : Int) (h : mH) (ho : isO h a0 6 = true) : F_Md_joinsFlat a0 x1 x2 x3 h =
  (gfd 6 4 h a0).bind fun v1 =>
  (ald 10 h v1.toNat x2).bind fun v5 =>
  (gfd 6 4 h a0).bind fun v7 =>
  (ald 10 h v7.toNat x3).bind fun v11 =>
  if v5 < v11 then
    (B_Md_joinsFlat_67 a0 x1 x2 x3 h)
  else
    ((gfd 6 14 h a0).bind fun v16 =>
    (ald 10 h v16.toNat (w32 ((w32 (x1 + (w32 (30 * x3)))) + 4))).bind fun v27 =>
    if v27 = 1 then
      (B_Md_joinsFlat_63 a0 x1 x2 x3 h)
    else
      ((gfd 6 4 h a0).bind fun v33 =>
      (ald 10 h v33.toNat x2).bind fun v37 =>
      (gfd 6 4 h a0).bind fun v39 =>
      (ald 10 h v39.toNat x3).bind fun v43 =>
      if v37 ≠ v43 then
        (B_Md_joinsFlat_67 a0 x1 x2 x3 h)
      else
        ((gfd 6 14 h a0).bind fun v48 =>
        (ald 10 h v48.toNat (w32 ((w32 (x1 + (w32 (30 * x2)))) + 4))).bind fun v59 =>
        if v59 ≠ 0 then
          (B_Md_joinsFlat_67 a0 x1 x2 x3 h)
        else
          (B_Md_joinsFlat_63 a0 x1 x2 x3 h)))) := by
  refine (congrArg asI (if_pos ho)).trans ?_
  show asI (Lim 175 0 [some (.inr (.inr a0)), some (.inl x1), some (.inl x2), some (.inl x3), none, none, none] [] h) = _
  refine A_aload_n d_175_0 rfl ?_
  refine A_getfA rfl d_175_1 kF_6_16 (fun v1 => ?_)
  refine A_iload_n d_175_4 rfl ?_
  refine A_iald rfl d_175_5 (fun v5 => ?_)
  refine A_aload_n d_175_6 rfl ?_
  refine A_getfA rfl d_175_7 kF_6_16 (fun v7 => ?_)
  refine A_iload_n d_175_10 rfl ?_
  refine A_iald rfl d_175_11 (fun v11 => ?_)
  refine A_lt (t := 67) d_175_12 (by decide) ?_ ?_
  · exact rfl
  · refine A_aload_n d_175_15 rfl ?_
    refine A_getfA rfl d_175_16 kF_6_37 (fun v16 => ?_)
    refine A_iload_n d_175_19 rfl ?_
    refine A_bipush d_175_20 (by decide) ?_
    refine A_iload_n d_175_22 rfl ?_
    refine A_imul d_175_23 ?_
    refine A_iadd d_175_24 ?_
    refine A_iconst d_175_25 (by decide) ?_
    refine A_iadd d_175_26 ?_
    refine A_iald rfl d_175_27 (fun v27 => ?_)
    refine A_iconst d_175_28 (by decide) ?_
    refine A_eq (t := 63) d_175_29 (by decide) ?_ ?_
    · exact rfl
    · refine A_aload_n d_175_32 rfl ?_
      refine A_getfA rfl d_175_33 kF_6_16 (fun v33 => ?_)
      refine A_iload_n d_175_36 rfl ?_
      refine A_iald rfl d_175_37 (fun v37 => ?_)
      refine A_aload_n d_175_38 rfl ?_
      refine A_getfA rfl d_175_39 kF_6_16 (fun v39 => ?_)
      refine A_iload_n d_175_42 rfl ?_
      refine A_iald rfl d_175_43 (fun v43 => ?_)
      refine A_ne (t := 67) d_175_44 (by decide) ?_ ?_
      · exact rfl
      · refine A_aload_n d_175_47 rfl ?_
        refine A_getfA rfl d_175_48 kF_6_37 (fun v48 => ?_)
        refine A_iload_n d_175_51 rfl ?_
        refine A_bipush d_175_52 (by decide) ?_
        refine A_iload_n d_175_54 rfl ?_
        refine A_imul d_175_55 ?_
        refine A_iadd d_175_56 ?_
        refine A_iconst d_175_57 (by decide) ?_
        refine A_iadd d_175_58 ?_
        refine A_iald rfl d_175_59 (fun v59 => ?_)
        refine A_ne0 (t := 67) d_175_60 (by decide) ?_ ?_
        · exact rfl
        · exact rfl
set_option maxRecDepth 20000 in
theorem q_Md_isEnough_53 (a0 : Nat) (x1 : Int) (x2 : Int) (x3 : Int) (h : mH) : B_Md_isEnough_53 a0 x1 x2 x3 h =
  some (1, h) := by
  unfold B_Md_isEnough_53
  refine A_iconst d_176_53 (by decide) ?_
  refine A_goto (t := 58) d_176_54 (by decide) ?_
  exact A_iretz rfl d_176_58 (by decide)
set_option maxRecDepth 20000 in
theorem q_Md_isEnough (a0 : Nat) (x1 : Int) (x2 : Int) (x3 : Int) (h : mH) (ho : isO h a0 6 = true) : F_Md_isEnough a0 x1 x2 x3 h =
  if x3 = 0 then
    (B_Md_isEnough_53 a0 x1 x2 x3 h)
  else
    (if x2 = x3 then
      (B_Md_isEnough_53 a0 x1 x2 x3 h)
    else
      ((F_Md_in x2 6 9 h).bind fun q17 =>
      if q17.1 = 0 then
        (some (0, q17.2))
      else
        ((F_Md_in x3 6 9 q17.2).bind fun q31 =>
        if q31.1 = 0 then
          (some (0, q31.2))
        else
          ((F_Md_joinsFlat a0 x1 (w32 (x3 - 6)) (w32 (x2 - 6)) q31.2).bind fun q47 =>
          if q47.1 = 0 then
            (some (0, q47.2))
          else
            (B_Md_isEnough_53 a0 x1 x2 x3 q47.2))))) := by
  refine (congrArg asI (if_pos ho)).trans ?_
  show asI (Lim 176 0 [some (.inr (.inr a0)), some (.inl x1), some (.inl x2), some (.inl x3)] [] h) = _
  refine A_iload_n d_176_0 rfl ?_
  refine A_eq0 (t := 53) d_176_1 (by decide) ?_ ?_
  · exact rfl
  · refine A_iload_n d_176_4 rfl ?_
    refine A_iload_n d_176_5 rfl ?_
    refine A_eq (t := 53) d_176_6 (by decide) ?_ ?_
    · exact rfl
    · refine A_iload_n d_176_9 rfl ?_
      refine A_i2l d_176_10 ?_
      refine A_ldc2 d_176_11 kJ_6_179 ?_
      refine A_ldc2 d_176_14 kJ_6_183 ?_
      refine A_call (t := 135) (way := 2) rfl d_176_17 rfl (cl kI_6_106 rfl) rfl (by decide) rfl (fun q17 => ?_)
      refine A_eq0 (t := 57) d_176_20 (by decide) ?_ ?_
      · refine A_iconst d_176_57 (by decide) ?_
        exact A_iretz rfl d_176_58 (by decide)
      · refine A_iload_n d_176_23 rfl ?_
        refine A_i2l d_176_24 ?_
        refine A_ldc2 d_176_25 kJ_6_179 ?_
        refine A_ldc2 d_176_28 kJ_6_183 ?_
        refine A_call (t := 135) (way := 2) rfl d_176_31 rfl (cl kI_6_106 rfl) rfl (by decide) rfl (fun q31 => ?_)
        refine A_eq0 (t := 57) d_176_34 (by decide) ?_ ?_
        · refine A_iconst d_176_57 (by decide) ?_
          exact A_iretz rfl d_176_58 (by decide)
        · refine A_aload_n d_176_37 rfl ?_
          refine A_iload_n d_176_38 rfl ?_
          refine A_iload_n d_176_39 rfl ?_
          refine A_bipush d_176_40 (by decide) ?_
          refine A_isub d_176_42 ?_
          refine A_iload_n d_176_43 rfl ?_
          refine A_bipush d_176_44 (by decide) ?_
          refine A_isub d_176_46 ?_
          refine A_call (t := 175) (way := 0) rfl d_176_47 rfl (cl kI_6_209 rfl) rfl (by decide) rfl (fun q47 => ?_)
          refine A_eq0 (t := 57) d_176_50 (by decide) ?_ ?_
          · refine A_iconst d_176_57 (by decide) ?_
            exact A_iretz rfl d_176_58 (by decide)
          · exact rfl
set_option maxRecDepth 20000 in
theorem q_Md_stands_2 (a0 : Nat) (x1 : Int) (x2 : Int) (x3 : Int) (h : mH) : B_Md_stands_2 a0 x1 x2 x3 h =
  if 4 ≤ x3 then
    ((gfd 6 4 h a0).bind fun v34 =>
    (ald 10 h v34.toNat x2).bind fun v38 =>
    (pfd 6 24 h a0 v38).bind fun h39 =>
    B_Md_stands_44 a0 x1 x2 0 h39)
  else
    ((gfd 6 22 h a0).bind fun v8 =>
    (gfd 6 14 h a0).bind fun v13 =>
    (ald 10 h v13.toNat (w32 ((w32 (x1 + (w32 (30 * x2)))) + x3))).bind fun v24 =>
    (ast h v8.toNat x3 v24).bind fun h25 =>
    B_Md_stands_2 a0 x1 x2 (w32 (x3 + 1)) h25) := by
  unfold B_Md_stands_2
  refine A_iload_n d_177_2 rfl ?_
  refine A_iconst d_177_3 (by decide) ?_
  refine A_ge (t := 32) d_177_4 (by decide) ?_ ?_
  · refine A_aload_n d_177_32 rfl ?_
    refine A_aload_n d_177_33 rfl ?_
    refine A_getfA rfl d_177_34 kF_6_16 (fun v34 => ?_)
    refine A_iload_n d_177_37 rfl ?_
    refine A_iald rfl d_177_38 (fun v38 => ?_)
    refine A_putfI rfl d_177_39 kF_6_213 rfl (fun h39 => ?_)
    refine A_iconst d_177_42 (by decide) ?_
    refine A_istore_n d_177_43 rfl ?_
    exact rfl
  · refine A_aload_n d_177_7 rfl ?_
    refine A_getfA rfl d_177_8 kF_6_44 (fun v8 => ?_)
    refine A_iload_n d_177_11 rfl ?_
    refine A_aload_n d_177_12 rfl ?_
    refine A_getfA rfl d_177_13 kF_6_37 (fun v13 => ?_)
    refine A_iload_n d_177_16 rfl ?_
    refine A_bipush d_177_17 (by decide) ?_
    refine A_iload_n d_177_19 rfl ?_
    refine A_imul d_177_20 ?_
    refine A_iadd d_177_21 ?_
    refine A_iload_n d_177_22 rfl ?_
    refine A_iadd d_177_23 ?_
    refine A_iald rfl d_177_24 (fun v24 => ?_)
    refine A_iast rfl d_177_25 (fun h25 => ?_)
    refine A_iinc d_177_26 (by decide) rfl rfl ?_
    refine A_goto (t := 2) d_177_29 (by decide) ?_
    exact rfl
set_option maxRecDepth 20000 in
theorem q_Md_stands_44 (a0 : Nat) (x1 : Int) (x2 : Int) (x3 : Int) (h : mH) : B_Md_stands_44 a0 x1 x2 x3 h =
  (gfd 6 24 h a0).bind fun v46 =>
  if v46 ≤ x3 then
    ((gfd 6 14 h a0).bind fun v83 =>
    (ald 10 h v83.toNat (w32 ((w32 (x1 + (w32 (30 * x2)))) + 4))).bind fun v94 =>
    if v94 ≠ 1 then
      (B_Md_stands_104 a0 x1 x2 x3 0 a0 h)
    else
      (B_Md_stands_104 a0 x1 x2 x3 1 a0 h))
  else
    ((gfd 6 23 h a0).bind fun v53 =>
    (gfd 6 24 h a0).bind fun v57 =>
    (gfd 6 5 h a0).bind fun v65 =>
    (ald 10 h v65.toNat (w32 ((w32 (3 * x2)) + x3))).bind fun v73 =>
    (ast h v53.toNat (w32 ((w32 (v57 - 1)) - x3)) v73).bind fun h74 =>
    B_Md_stands_44 a0 x1 x2 (w32 (x3 + 1)) h74) := by
  unfold B_Md_stands_44
  refine A_iload_n d_177_44 rfl ?_
  refine A_aload_n d_177_45 rfl ?_
  refine A_getfI rfl d_177_46 kF_6_213 (by decide) (fun v46 => ?_)
  refine A_ge (t := 81) d_177_49 (by decide) ?_ ?_
  · refine A_aload_n d_177_81 rfl ?_
    refine A_aload_n d_177_82 rfl ?_
    refine A_getfA rfl d_177_83 kF_6_37 (fun v83 => ?_)
    refine A_iload_n d_177_86 rfl ?_
    refine A_bipush d_177_87 (by decide) ?_
    refine A_iload_n d_177_89 rfl ?_
    refine A_imul d_177_90 ?_
    refine A_iadd d_177_91 ?_
    refine A_iconst d_177_92 (by decide) ?_
    refine A_iadd d_177_93 ?_
    refine A_iald rfl d_177_94 (fun v94 => ?_)
    refine A_iconst d_177_95 (by decide) ?_
    refine A_ne (t := 103) d_177_96 (by decide) ?_ ?_
    · refine A_iconst d_177_103 (by decide) ?_
      exact rfl
    · refine A_iconst d_177_99 (by decide) ?_
      refine A_goto (t := 104) d_177_100 (by decide) ?_
      exact rfl
  · refine A_aload_n d_177_52 rfl ?_
    refine A_getfA rfl d_177_53 kF_6_47 (fun v53 => ?_)
    refine A_aload_n d_177_56 rfl ?_
    refine A_getfI rfl d_177_57 kF_6_213 (by decide) (fun v57 => ?_)
    refine A_iconst d_177_60 (by decide) ?_
    refine A_isub d_177_61 ?_
    refine A_iload_n d_177_62 rfl ?_
    refine A_isub d_177_63 ?_
    refine A_aload_n d_177_64 rfl ?_
    refine A_getfA rfl d_177_65 kF_6_19 (fun v65 => ?_)
    refine A_iconst d_177_68 (by decide) ?_
    refine A_iload_n d_177_69 rfl ?_
    refine A_imul d_177_70 ?_
    refine A_iload_n d_177_71 rfl ?_
    refine A_iadd d_177_72 ?_
    refine A_iald rfl d_177_73 (fun v73 => ?_)
    refine A_iast rfl d_177_74 (fun h74 => ?_)
    refine A_iinc d_177_75 (by decide) rfl rfl ?_
    refine A_goto (t := 44) d_177_78 (by decide) ?_
    exact rfl
set_option maxRecDepth 20000 in
theorem q_Md_stands_104 (a0 : Nat) (x1 : Int) (x2 : Int) (x3 : Int) (s0 : Int) (sa1 : Nat) (h : mH) : B_Md_stands_104 a0 x1 x2 x3 s0 sa1 h =
  ((bz s0).bind fun _ => pfd 6 25 h sa1 s0).bind fun h104 =>
  some h104 := by
  unfold B_Md_stands_104
  refine A_putfZ rfl d_177_104 kF_6_216 rfl (fun h104 => ?_)
  exact A_ret rfl d_177_107
set_option maxRecDepth 20000 in
theorem q_Md_stands (a0 : Nat) (x1 : Int) (x2 : Int) (h : mH) (ho : isO h a0 6 = true) : F_Md_stands a0 x1 x2 h =
  B_Md_stands_2 a0 x1 x2 0 h := by
  refine (congrArg asU (if_pos ho)).trans ?_
  show asU (Lim 177 0 [some (.inr (.inr a0)), some (.inl x1), some (.inl x2), none] [] h) = _
  refine A_iconst d_177_0 (by decide) ?_
  refine A_istore_n d_177_1 rfl ?_
  exact rfl
set_option maxRecDepth 20000 in
theorem q_Md_areEnough_5 (a0 : Nat) (x1 : Int) (x2 : Int) (x3 : Int) (x4 : Int) (h : mH) : B_Md_areEnough_5 a0 x1 x2 x3 x4 h =
  if 4 ≤ x4 then
    (rz x3 h)
  else
    (if x3 = 0 then
      (B_Md_areEnough_48 a0 x1 x2 x3 x4 h)
    else
      ((gfd 6 22 h a0).bind fun v18 =>
      (ald 10 h v18.toNat x4).bind fun v23 =>
      (gfd 6 14 h a0).bind fun v25 =>
      (ald 10 h v25.toNat (w32 ((w32 (x1 + (w32 (30 * x2)))) + x4))).bind fun v37 =>
      (F_Md_isEnough a0 x1 v23 v37 h).bind fun q38 =>
      if q38.1 = 0 then
        (B_Md_areEnough_48 a0 x1 x2 x3 x4 q38.2)
      else
        (B_Md_areEnough_49 a0 x1 x2 x3 x4 1 q38.2))) := by
  unfold B_Md_areEnough_5
  refine A_iload d_178_5 rfl ?_
  refine A_iconst d_178_7 (by decide) ?_
  refine A_ge (t := 56) d_178_8 (by decide) ?_ ?_
  · refine A_iload_n d_178_56 rfl ?_
    exact A_iretb rfl d_178_57
  · refine A_iload_n d_178_11 rfl ?_
    refine A_eq0 (t := 48) d_178_12 (by decide) ?_ ?_
    · exact rfl
    · refine A_aload_n d_178_15 rfl ?_
      refine A_iload_n d_178_16 rfl ?_
      refine A_aload_n d_178_17 rfl ?_
      refine A_getfA rfl d_178_18 kF_6_44 (fun v18 => ?_)
      refine A_iload d_178_21 rfl ?_
      refine A_iald rfl d_178_23 (fun v23 => ?_)
      refine A_aload_n d_178_24 rfl ?_
      refine A_getfA rfl d_178_25 kF_6_37 (fun v25 => ?_)
      refine A_iload_n d_178_28 rfl ?_
      refine A_bipush d_178_29 (by decide) ?_
      refine A_iload_n d_178_31 rfl ?_
      refine A_imul d_178_32 ?_
      refine A_iadd d_178_33 ?_
      refine A_iload d_178_34 rfl ?_
      refine A_iadd d_178_36 ?_
      refine A_iald rfl d_178_37 (fun v37 => ?_)
      refine A_call (t := 176) (way := 0) rfl d_178_38 rfl (cl kI_6_219 rfl) rfl (by decide) rfl (fun q38 => ?_)
      refine A_eq0 (t := 48) d_178_41 (by decide) ?_ ?_
      · exact rfl
      · refine A_iconst d_178_44 (by decide) ?_
        refine A_goto (t := 49) d_178_45 (by decide) ?_
        exact rfl
set_option maxRecDepth 20000 in
theorem q_Md_areEnough_48 (a0 : Nat) (x1 : Int) (x2 : Int) (x3 : Int) (x4 : Int) (h : mH) : B_Md_areEnough_48 a0 x1 x2 x3 x4 h =
  B_Md_areEnough_49 a0 x1 x2 x3 x4 0 h := by
  unfold B_Md_areEnough_48
  refine A_iconst d_178_48 (by decide) ?_
  exact rfl
set_option maxRecDepth 20000 in
theorem q_Md_areEnough_49 (a0 : Nat) (x1 : Int) (x2 : Int) (x3 : Int) (x4 : Int) (s0 : Int) (h : mH) : B_Md_areEnough_49 a0 x1 x2 x3 x4 s0 h =
  B_Md_areEnough_5 a0 x1 x2 s0 (w32 (x4 + 1)) h := by
  unfold B_Md_areEnough_49
  refine A_istore_n d_178_49 rfl ?_
  refine A_iinc d_178_50 (by decide) rfl rfl ?_
  refine A_goto (t := 5) d_178_53 (by decide) ?_
  exact rfl
set_option maxRecDepth 20000 in
theorem q_Md_areEnough (a0 : Nat) (x1 : Int) (x2 : Int) (h : mH) (ho : isO h a0 6 = true) : F_Md_areEnough a0 x1 x2 h =
  B_Md_areEnough_5 a0 x1 x2 1 0 h := by
  refine (congrArg asI (if_pos ho)).trans ?_
  show asI (Lim 178 0 [some (.inr (.inr a0)), some (.inl x1), some (.inl x2), none, none] [] h) = _
  refine A_iconst d_178_0 (by decide) ?_
  refine A_istore_n d_178_1 rfl ?_
  refine A_iconst d_178_2 (by decide) ?_
  refine A_istore d_178_3 rfl ?_
  exact rfl
set_option maxRecDepth 20000 in
theorem q_Md_isStackEnough_62 (a0 : Nat) (x1 : Int) (x2 : Int) (h : mH) : B_Md_isStackEnough_62 a0 x1 x2 h =
  B_Md_isStackEnough_63 a0 x1 x2 0 h := by
  unfold B_Md_isStackEnough_62
  refine A_iconst d_179_62 (by decide) ?_
  exact rfl
set_option maxRecDepth 20000 in
theorem q_Md_isStackEnough_63 (a0 : Nat) (x1 : Int) (x2 : Int) (s0 : Int) (h : mH) : B_Md_isStackEnough_63 a0 x1 x2 s0 h =
  B_Md_isStackEnough_67 a0 x1 x2 s0 0 h := by
  unfold B_Md_isStackEnough_63
  refine A_istore_n d_179_63 rfl ?_
  refine A_iconst d_179_64 (by decide) ?_
  refine A_istore d_179_65 rfl ?_
  exact rfl
set_option maxRecDepth 20000 in
theorem q_Md_isStackEnough_67 (a0 : Nat) (x1 : Int) (x2 : Int) (x3 : Int) (x4 : Int) (h : mH) : B_Md_isStackEnough_67 a0 x1 x2 x3 x4 h =
  (gfd 6 4 h a0).bind fun v70 =>
  (ald 10 h v70.toNat x2).bind fun v74 =>
  if v74 ≤ x4 then
    (rz x3 h)
  else
    (if x3 = 0 then
      (rz x3 h)
    else
      ((gfd 6 23 h a0).bind fun v85 =>
      (gfd 6 24 h a0).bind fun v89 =>
      (ald 10 h v85.toNat (w32 ((w32 (v89 - 1)) - x4))).bind fun v97 =>
      (gfd 6 5 h a0).bind fun v99 =>
      (ald 10 h v99.toNat (w32 ((w32 (3 * x2)) + x4))).bind fun v108 =>
      (F_Md_isEnough a0 x1 v97 v108 h).bind fun q109 =>
      B_Md_isStackEnough_67 a0 x1 x2 q109.1 (w32 (x4 + 1)) q109.2)) := by
  unfold B_Md_isStackEnough_67
  refine A_iload d_179_67 rfl ?_
  refine A_aload_n d_179_69 rfl ?_
  refine A_getfA rfl d_179_70 kF_6_16 (fun v70 => ?_)
  refine A_iload_n d_179_73 rfl ?_
  refine A_iald rfl d_179_74 (fun v74 => ?_)
  refine A_ge (t := 119) d_179_75 (by decide) ?_ ?_
  · refine A_iload_n d_179_119 rfl ?_
    exact A_iretb rfl d_179_120
  · refine A_iload_n d_179_78 rfl ?_
    refine A_eq0 (t := 119) d_179_79 (by decide) ?_ ?_
    · refine A_iload_n d_179_119 rfl ?_
      exact A_iretb rfl d_179_120
    · refine A_aload_n d_179_82 rfl ?_
      refine A_iload_n d_179_83 rfl ?_
      refine A_aload_n d_179_84 rfl ?_
      refine A_getfA rfl d_179_85 kF_6_47 (fun v85 => ?_)
      refine A_aload_n d_179_88 rfl ?_
      refine A_getfI rfl d_179_89 kF_6_213 (by decide) (fun v89 => ?_)
      refine A_iconst d_179_92 (by decide) ?_
      refine A_isub d_179_93 ?_
      refine A_iload d_179_94 rfl ?_
      refine A_isub d_179_96 ?_
      refine A_iald rfl d_179_97 (fun v97 => ?_)
      refine A_aload_n d_179_98 rfl ?_
      refine A_getfA rfl d_179_99 kF_6_19 (fun v99 => ?_)
      refine A_iconst d_179_102 (by decide) ?_
      refine A_iload_n d_179_103 rfl ?_
      refine A_imul d_179_104 ?_
      refine A_iload d_179_105 rfl ?_
      refine A_iadd d_179_107 ?_
      refine A_iald rfl d_179_108 (fun v108 => ?_)
      refine A_call (t := 176) (way := 0) rfl d_179_109 rfl (cl kI_6_219 rfl) rfl (by decide) rfl (fun q109 => ?_)
      refine A_istore_n d_179_112 rfl ?_
      refine A_iinc d_179_113 (by decide) rfl rfl ?_
      refine A_goto (t := 67) d_179_116 (by decide) ?_
      exact rfl
set_option maxRecDepth 20000 in
theorem q_Md_isStackEnough (a0 : Nat) (x1 : Int) (x2 : Int) (h : mH) (ho : isO h a0 6 = true) : F_Md_isStackEnough a0 x1 x2 h =
  (gfd 6 14 h a0).bind fun v1 =>
  (ald 10 h v1.toNat (w32 ((w32 (x1 + (w32 (30 * x2)))) + 4))).bind fun v12 =>
  if v12 ≠ 1 then
    ((gfd 6 24 h a0).bind fun v39 =>
    (gfd 6 4 h a0).bind fun v43 =>
    (ald 10 h v43.toNat x2).bind fun v47 =>
    if v39 ≠ v47 then
      (B_Md_isStackEnough_62 a0 x1 x2 h)
    else
      ((gfd 6 25 h a0).bind fun v52 =>
      if v52 ≠ 0 then
        (B_Md_isStackEnough_62 a0 x1 x2 h)
      else
        (B_Md_isStackEnough_63 a0 x1 x2 1 h)))
  else
    ((gfd 6 24 h a0).bind fun v18 =>
    (gfd 6 4 h a0).bind fun v22 =>
    (ald 10 h v22.toNat x2).bind fun v26 =>
    if v18 < v26 then
      (B_Md_isStackEnough_63 a0 x1 x2 0 h)
    else
      (B_Md_isStackEnough_63 a0 x1 x2 1 h)) := by
  refine (congrArg asI (if_pos ho)).trans ?_
  show asI (Lim 179 0 [some (.inr (.inr a0)), some (.inl x1), some (.inl x2), none, none] [] h) = _
  refine A_aload_n d_179_0 rfl ?_
  refine A_getfA rfl d_179_1 kF_6_37 (fun v1 => ?_)
  refine A_iload_n d_179_4 rfl ?_
  refine A_bipush d_179_5 (by decide) ?_
  refine A_iload_n d_179_7 rfl ?_
  refine A_imul d_179_8 ?_
  refine A_iadd d_179_9 ?_
  refine A_iconst d_179_10 (by decide) ?_
  refine A_iadd d_179_11 ?_
  refine A_iald rfl d_179_12 (fun v12 => ?_)
  refine A_iconst d_179_13 (by decide) ?_
  refine A_ne (t := 38) d_179_14 (by decide) ?_ ?_
  · refine A_aload_n d_179_38 rfl ?_
    refine A_getfI rfl d_179_39 kF_6_213 (by decide) (fun v39 => ?_)
    refine A_aload_n d_179_42 rfl ?_
    refine A_getfA rfl d_179_43 kF_6_16 (fun v43 => ?_)
    refine A_iload_n d_179_46 rfl ?_
    refine A_iald rfl d_179_47 (fun v47 => ?_)
    refine A_ne (t := 62) d_179_48 (by decide) ?_ ?_
    · exact rfl
    · refine A_aload_n d_179_51 rfl ?_
      refine A_getfI rfl d_179_52 kF_6_216 (by decide) (fun v52 => ?_)
      refine A_ne0 (t := 62) d_179_55 (by decide) ?_ ?_
      · exact rfl
      · refine A_iconst d_179_58 (by decide) ?_
        refine A_goto (t := 63) d_179_59 (by decide) ?_
        exact rfl
  · refine A_aload_n d_179_17 rfl ?_
    refine A_getfI rfl d_179_18 kF_6_213 (by decide) (fun v18 => ?_)
    refine A_aload_n d_179_21 rfl ?_
    refine A_getfA rfl d_179_22 kF_6_16 (fun v22 => ?_)
    refine A_iload_n d_179_25 rfl ?_
    refine A_iald rfl d_179_26 (fun v26 => ?_)
    refine A_lt (t := 34) d_179_27 (by decide) ?_ ?_
    · refine A_iconst d_179_34 (by decide) ?_
      refine A_goto (t := 63) d_179_35 (by decide) ?_
      exact rfl
    · refine A_iconst d_179_30 (by decide) ?_
      refine A_goto (t := 63) d_179_31 (by decide) ?_
      exact rfl
set_option maxRecDepth 20000 in
theorem q_Md_jumps (a0 : Nat) (x1 : Int) (x2 : Int) (h : mH) (ho : isO h a0 6 = true) : F_Md_jumps a0 x1 x2 h =
  (F_Md_areEnough a0 x1 x2 h).bind fun q3 =>
  if q3.1 ≠ 0 then
    ((F_Md_isStackEnough a0 x1 x2 q3.2).bind fun q17 =>
    if q17.1 = 0 then
      (some (7, q17.2))
    else
      (some (0, q17.2)))
  else
    (some (6, q3.2)) := by
  refine (congrArg asI (if_pos ho)).trans ?_
  show asI (Lim 180 0 [some (.inr (.inr a0)), some (.inl x1), some (.inl x2)] [] h) = _
  refine A_aload_n d_180_0 rfl ?_
  refine A_iload_n d_180_1 rfl ?_
  refine A_iload_n d_180_2 rfl ?_
  refine A_call (t := 178) (way := 0) rfl d_180_3 rfl (cl kI_6_222 rfl) rfl (by decide) rfl (fun q3 => ?_)
  refine A_ne0 (t := 14) d_180_6 (by decide) ?_ ?_
  · refine A_aload_n d_180_14 rfl ?_
    refine A_iload_n d_180_15 rfl ?_
    refine A_iload_n d_180_16 rfl ?_
    refine A_call (t := 179) (way := 0) rfl d_180_17 rfl (cl kI_6_225 rfl) rfl (by decide) rfl (fun q17 => ?_)
    refine A_eq0 (t := 27) d_180_20 (by decide) ?_ ?_
    · refine A_bipush d_180_27 (by decide) ?_
      exact A_ireti rfl d_180_29
    · refine A_iconst d_180_23 (by decide) ?_
      refine A_goto (t := 29) d_180_24 (by decide) ?_
      exact A_ireti rfl d_180_29
  · refine A_bipush d_180_9 (by decide) ?_
    refine A_goto (t := 29) d_180_11 (by decide) ?_
    exact A_ireti rfl d_180_29
set_option maxRecDepth 20000 in
theorem q_Md_isTuple_20 (x0 : Int) (h : mH) : B_Md_isTuple_20 x0 h =
  some (1, h) := by
  unfold B_Md_isTuple_20
  refine A_iconst d_181_20 (by decide) ?_
  refine A_goto (t := 25) d_181_21 (by decide) ?_
  exact A_iretz rfl d_181_25 (by decide)
set_option maxRecDepth 20000 in
theorem q_Md_isTuple (x0 : Int) (h : mH) : F_Md_isTuple x0 h =
  (F_Md_in x0 2 5 h).bind fun q8 =>
  if q8.1 ≠ 0 then
    (B_Md_isTuple_20 x0 q8.2)
  else
    (if x0 ≤ 9 then
      (some (0, q8.2))
    else
      (B_Md_isTuple_20 x0 q8.2)) := by
  refine (congrArg asI (if_pos rfl)).trans ?_
  show asI (Lim 181 0 [some (.inl x0)] [] h) = _
  refine A_iload_n d_181_0 rfl ?_
  refine A_i2l d_181_1 ?_
  refine A_ldc2 d_181_2 kJ_6_128 ?_
  refine A_ldc2 d_181_5 kJ_6_134 ?_
  refine A_call (t := 135) (way := 2) rfl d_181_8 rfl (cl kI_6_106 rfl) rfl (by decide) rfl (fun q8 => ?_)
  refine A_ne0 (t := 20) d_181_11 (by decide) ?_ ?_
  · exact rfl
  · refine A_iload_n d_181_14 rfl ?_
    refine A_bipush d_181_15 (by decide) ?_
    refine A_le (t := 24) d_181_17 (by decide) ?_ ?_
    · refine A_iconst d_181_24 (by decide) ?_
      exact A_iretz rfl d_181_25 (by decide)
    · exact rfl
set_option maxRecDepth 20000 in
theorem q_Md_sortOf (x0 : Int) (h : mH) : F_Md_sortOf x0 h =
  if x0 ≤ 9 then
    (some (w32 (x0 - 2), h))
  else
    (some (w32 (Int.tdiv (w32 (x0 - 10)) 8), h)) := by
  refine (congrArg asI (if_pos rfl)).trans ?_
  show asI (Lim 182 0 [some (.inl x0)] [] h) = _
  refine A_iload_n d_182_0 rfl ?_
  refine A_bipush d_182_1 (by decide) ?_
  refine A_le (t := 16) d_182_3 (by decide) ?_ ?_
  · refine A_iload_n d_182_16 rfl ?_
    refine A_iconst d_182_17 (by decide) ?_
    refine A_isub d_182_18 ?_
    exact A_ireti rfl d_182_19
  · refine A_iload_n d_182_6 rfl ?_
    refine A_bipush d_182_7 (by decide) ?_
    refine A_isub d_182_9 ?_
    refine A_bipush d_182_10 (by decide) ?_
    refine A_idiv d_182_12 (by decide) ?_
    refine A_goto (t := 19) d_182_13 (by decide) ?_
    exact A_ireti rfl d_182_19
set_option maxRecDepth 20000 in
theorem q_Md_setOf (a0 : Nat) (x1 : Int) (h : mH) (ho : isO h a0 6 = true) : F_Md_setOf a0 x1 h =
  if x1 ≤ 9 then
    ((gfd 6 1 h a0).bind fun v18 =>
    (ald 10 h v18.toNat (w32 (x1 - 2))).bind fun v24 =>
    some (w32 ((ishl 1 v24) - 1), h))
  else
    (some (Int.tmod (w32 (x1 - 10)) 8, h)) := by
  refine (congrArg asI (if_pos ho)).trans ?_
  show asI (Lim 183 0 [some (.inr (.inr a0)), some (.inl x1)] [] h) = _
  refine A_iload_n d_183_0 rfl ?_
  refine A_bipush d_183_1 (by decide) ?_
  refine A_le (t := 16) d_183_3 (by decide) ?_ ?_
  · refine A_iconst d_183_16 (by decide) ?_
    refine A_aload_n d_183_17 rfl ?_
    refine A_getfA rfl d_183_18 kF_6_7 (fun v18 => ?_)
    refine A_iload_n d_183_21 rfl ?_
    refine A_iconst d_183_22 (by decide) ?_
    refine A_isub d_183_23 ?_
    refine A_iald rfl d_183_24 (fun v24 => ?_)
    refine A_ishl d_183_25 ?_
    refine A_iconst d_183_26 (by decide) ?_
    refine A_isub d_183_27 ?_
    exact A_ireti rfl d_183_28
  · refine A_iload_n d_183_6 rfl ?_
    refine A_bipush d_183_7 (by decide) ?_
    refine A_isub d_183_9 ?_
    refine A_bipush d_183_10 (by decide) ?_
    refine A_irem d_183_12 (by decide) ?_
    refine A_goto (t := 28) d_183_13 (by decide) ?_
    exact A_ireti rfl d_183_28
set_option maxRecDepth 20000 in
theorem q_Md_puts_117 (a0 : Nat) (x1 : Int) (x2 : Int) (x3 : Int) (x4 : Int) (x5 : Int) (x6 : Int) (x7 : Int) (s0 : Int) (s1 : Int) (sa2 : Nat) (h : mH) : B_Md_puts_117 a0 x1 x2 x3 x4 x5 x6 x7 s0 s1 sa2 h =
  (ast h sa2 s1 s0).bind fun h117 =>
  some (0, h117) := by
  unfold B_Md_puts_117
  refine A_iast rfl d_184_117 (fun h117 => ?_)
  refine A_iconst d_184_118 (by decide) ?_
  exact A_ireti rfl d_184_119
set_option maxRecDepth 20000 in
theorem q_Md_puts (a0 : Nat) (x1 : Int) (x2 : Int) (x3 : Int) (x4 : Int) (h : mH) (ho : isO h a0 6 = true) : F_Md_puts a0 x1 x2 x3 x4 h =
  (gfd 6 22 h a0).bind fun v1 =>
  (ald 10 h v1.toNat x2).bind fun v5 =>
  (F_Md_isTuple v5 h).bind fun q10 =>
  if q10.1 ≠ 0 then
    ((F_Md_sortOf v5 q10.2).bind fun q20 =>
    (gfd 6 1 q20.2 a0).bind fun v27 =>
    (ald 10 q20.2 v27.toNat q20.1).bind fun v32 =>
    if x3 < v32 then
      ((gfd 6 22 q20.2 a0).bind fun v41 =>
      (ald 10 q20.2 v41.toNat x4).bind fun v46 =>
      (gfd 6 2 q20.2 a0).bind fun v48 =>
      (ald 10 q20.2 v48.toNat (w32 ((w32 (3 * q20.1)) + x3))).bind fun v57 =>
      (F_Md_isEnough a0 x1 v46 v57 q20.2).bind fun q58 =>
      if q58.1 ≠ 0 then
        ((F_Md_setOf a0 v5 q58.2).bind fun q69 =>
        (gfd 6 22 q69.2 a0).bind fun v79 =>
        (gfd 6 1 q69.2 a0).bind fun v87 =>
        (ald 10 q69.2 v87.toNat q20.1).bind fun v92 =>
        if ior q69.1 (ishl 1 x3) ≠ w32 ((ishl 1 v92) - 1) then
          (B_Md_puts_117 a0 x1 x2 x3 x4 v5 q20.1 (ior q69.1 (ishl 1 x3)) (w32 ((w32 (10 + (w32 (8 * q20.1)))) + (ior q69.1 (ishl 1 x3)))) x2 v79.toNat q69.2)
        else
          (B_Md_puts_117 a0 x1 x2 x3 x4 v5 q20.1 (ior q69.1 (ishl 1 x3)) (w32 (2 + q20.1)) x2 v79.toNat q69.2))
      else
        (some (4, q58.2)))
    else
      (some (3, q20.2)))
  else
    (some (2, q10.2)) := by
  refine (congrArg asI (if_pos ho)).trans ?_
  show asI (Lim 184 0 [some (.inr (.inr a0)), some (.inl x1), some (.inl x2), some (.inl x3), some (.inl x4), none, none, none] [] h) = _
  refine A_aload_n d_184_0 rfl ?_
  refine A_getfA rfl d_184_1 kF_6_44 (fun v1 => ?_)
  refine A_iload_n d_184_4 rfl ?_
  refine A_iald rfl d_184_5 (fun v5 => ?_)
  refine A_istore d_184_6 rfl ?_
  refine A_iload d_184_8 rfl ?_
  refine A_call (t := 181) (way := 2) rfl d_184_10 rfl (cl kI_6_228 rfl) rfl (by decide) rfl (fun q10 => ?_)
  refine A_ne0 (t := 18) d_184_13 (by decide) ?_ ?_
  · refine A_iload d_184_18 rfl ?_
    refine A_call (t := 182) (way := 2) rfl d_184_20 rfl (cl kI_6_231 rfl) rfl (by decide) rfl (fun q20 => ?_)
    refine A_istore d_184_23 rfl ?_
    refine A_iload_n d_184_25 rfl ?_
    refine A_aload_n d_184_26 rfl ?_
    refine A_getfA rfl d_184_27 kF_6_7 (fun v27 => ?_)
    refine A_iload d_184_30 rfl ?_
    refine A_iald rfl d_184_32 (fun v32 => ?_)
    refine A_lt (t := 38) d_184_33 (by decide) ?_ ?_
    · refine A_aload_n d_184_38 rfl ?_
      refine A_iload_n d_184_39 rfl ?_
      refine A_aload_n d_184_40 rfl ?_
      refine A_getfA rfl d_184_41 kF_6_44 (fun v41 => ?_)
      refine A_iload d_184_44 rfl ?_
      refine A_iald rfl d_184_46 (fun v46 => ?_)
      refine A_aload_n d_184_47 rfl ?_
      refine A_getfA rfl d_184_48 kF_6_13 (fun v48 => ?_)
      refine A_iconst d_184_51 (by decide) ?_
      refine A_iload d_184_52 rfl ?_
      refine A_imul d_184_54 ?_
      refine A_iload_n d_184_55 rfl ?_
      refine A_iadd d_184_56 ?_
      refine A_iald rfl d_184_57 (fun v57 => ?_)
      refine A_call (t := 176) (way := 0) rfl d_184_58 rfl (cl kI_6_219 rfl) rfl (by decide) rfl (fun q58 => ?_)
      refine A_ne0 (t := 66) d_184_61 (by decide) ?_ ?_
      · refine A_aload_n d_184_66 rfl ?_
        refine A_iload d_184_67 rfl ?_
        refine A_call (t := 183) (way := 0) rfl d_184_69 rfl (cl kI_6_234 rfl) rfl (by decide) rfl (fun q69 => ?_)
        refine A_iconst d_184_72 (by decide) ?_
        refine A_iload_n d_184_73 rfl ?_
        refine A_ishl d_184_74 ?_
        refine A_ior d_184_75 ?_
        refine A_istore d_184_76 rfl ?_
        refine A_aload_n d_184_78 rfl ?_
        refine A_getfA rfl d_184_79 kF_6_44 (fun v79 => ?_)
        refine A_iload_n d_184_82 rfl ?_
        refine A_iload d_184_83 rfl ?_
        refine A_iconst d_184_85 (by decide) ?_
        refine A_aload_n d_184_86 rfl ?_
        refine A_getfA rfl d_184_87 kF_6_7 (fun v87 => ?_)
        refine A_iload d_184_90 rfl ?_
        refine A_iald rfl d_184_92 (fun v92 => ?_)
        refine A_ishl d_184_93 ?_
        refine A_iconst d_184_94 (by decide) ?_
        refine A_isub d_184_95 ?_
        refine A_ne (t := 106) d_184_96 (by decide) ?_ ?_
        · refine A_bipush d_184_106 (by decide) ?_
          refine A_bipush d_184_108 (by decide) ?_
          refine A_iload d_184_110 rfl ?_
          refine A_imul d_184_112 ?_
          refine A_iadd d_184_113 ?_
          refine A_iload d_184_114 rfl ?_
          refine A_iadd d_184_116 ?_
          exact rfl
        · refine A_iconst d_184_99 (by decide) ?_
          refine A_iload d_184_100 rfl ?_
          refine A_iadd d_184_102 ?_
          refine A_goto (t := 117) d_184_103 (by decide) ?_
          exact rfl
      · refine A_iconst d_184_64 (by decide) ?_
        exact A_ireti rfl d_184_65
    · refine A_iconst d_184_36 (by decide) ?_
      exact A_ireti rfl d_184_37
  · refine A_iconst d_184_16 (by decide) ?_
    exact A_ireti rfl d_184_17
set_option maxRecDepth 20000 in
theorem q_Md_gets (a0 : Nat) (x1 : Int) (x2 : Int) (x3 : Int) (h : mH) (ho : isO h a0 6 = true) : F_Md_gets a0 x1 x2 x3 h =
  (gfd 6 22 h a0).bind fun v1 =>
  (ald 10 h v1.toNat x2).bind fun v5 =>
  (F_Md_isTuple v5 h).bind fun q10 =>
  if q10.1 ≠ 0 then
    ((gfd 6 1 q10.2 a0).bind fun v20 =>
    (F_Md_sortOf v5 q10.2).bind fun q25 =>
    (ald 10 q25.2 v20.toNat q25.1).bind fun v28 =>
    if v28 ≤ x3 then
      (some (3, q25.2))
    else
      ((F_Md_setOf a0 v5 q25.2).bind fun q35 =>
      (F_Md_has q35.1 x3 q35.2).bind fun q39 =>
      if q39.1 ≠ 0 then
        ((gfd 6 22 q39.2 a0).bind fun v48 =>
        (gfd 6 2 q39.2 a0).bind fun v53 =>
        (F_Md_sortOf v5 q39.2).bind fun q59 =>
        (ald 10 q59.2 v53.toNat (w32 ((w32 (3 * q59.1)) + x3))).bind fun v65 =>
        (ast q59.2 v48.toNat x1 v65).bind fun h66 =>
        some (0, h66))
      else
        (some (3, q39.2))))
  else
    (some (2, q10.2)) := by
  refine (congrArg asI (if_pos ho)).trans ?_
  show asI (Lim 185 0 [some (.inr (.inr a0)), some (.inl x1), some (.inl x2), some (.inl x3), none] [] h) = _
  refine A_aload_n d_185_0 rfl ?_
  refine A_getfA rfl d_185_1 kF_6_44 (fun v1 => ?_)
  refine A_iload_n d_185_4 rfl ?_
  refine A_iald rfl d_185_5 (fun v5 => ?_)
  refine A_istore d_185_6 rfl ?_
  refine A_iload d_185_8 rfl ?_
  refine A_call (t := 181) (way := 2) rfl d_185_10 rfl (cl kI_6_228 rfl) rfl (by decide) rfl (fun q10 => ?_)
  refine A_ne0 (t := 18) d_185_13 (by decide) ?_ ?_
  · refine A_iload_n d_185_18 rfl ?_
    refine A_aload_n d_185_19 rfl ?_
    refine A_getfA rfl d_185_20 kF_6_7 (fun v20 => ?_)
    refine A_iload d_185_23 rfl ?_
    refine A_call (t := 182) (way := 2) rfl d_185_25 rfl (cl kI_6_231 rfl) rfl (by decide) rfl (fun q25 => ?_)
    refine A_iald rfl d_185_28 (fun v28 => ?_)
    refine A_ge (t := 45) d_185_29 (by decide) ?_ ?_
    · refine A_iconst d_185_45 (by decide) ?_
      exact A_ireti rfl d_185_46
    · refine A_aload_n d_185_32 rfl ?_
      refine A_iload d_185_33 rfl ?_
      refine A_call (t := 183) (way := 0) rfl d_185_35 rfl (cl kI_6_234 rfl) rfl (by decide) rfl (fun q35 => ?_)
      refine A_iload_n d_185_38 rfl ?_
      refine A_call (t := 136) (way := 2) rfl d_185_39 rfl (cl kI_6_237 rfl) rfl (by decide) rfl (fun q39 => ?_)
      refine A_ne0 (t := 47) d_185_42 (by decide) ?_ ?_
      · refine A_aload_n d_185_47 rfl ?_
        refine A_getfA rfl d_185_48 kF_6_44 (fun v48 => ?_)
        refine A_iload_n d_185_51 rfl ?_
        refine A_aload_n d_185_52 rfl ?_
        refine A_getfA rfl d_185_53 kF_6_13 (fun v53 => ?_)
        refine A_iconst d_185_56 (by decide) ?_
        refine A_iload d_185_57 rfl ?_
        refine A_call (t := 182) (way := 2) rfl d_185_59 rfl (cl kI_6_231 rfl) rfl (by decide) rfl (fun q59 => ?_)
        refine A_imul d_185_62 ?_
        refine A_iload_n d_185_63 rfl ?_
        refine A_iadd d_185_64 ?_
        refine A_iald rfl d_185_65 (fun v65 => ?_)
        refine A_iast rfl d_185_66 (fun h66 => ?_)
        refine A_iconst d_185_67 (by decide) ?_
        exact A_ireti rfl d_185_68
      · refine A_iconst d_185_45 (by decide) ?_
        exact A_ireti rfl d_185_46
  · refine A_iconst d_185_16 (by decide) ?_
    exact A_ireti rfl d_185_17
set_option maxRecDepth 20000 in
theorem q_Md_pushes (a0 : Nat) (x1 : Int) (h : mH) (ho : isO h a0 6 = true) : F_Md_pushes a0 x1 h =
  (gfd 6 24 h a0).bind fun v1 =>
  if v1 ≠ 6 then
    ((gfd 6 23 h a0).bind fun v12 =>
    (gfd 6 24 h a0).bind fun v16 =>
    (ast h v12.toNat v16 x1).bind fun h20 =>
    (gfd 6 24 h20 a0).bind fun v23 =>
    (pfd 6 24 h20 a0 (w32 (v23 + 1))).bind fun h28 =>
    some (0, h28))
  else
    (some (5, h)) := by
  refine (congrArg asI (if_pos ho)).trans ?_
  show asI (Lim 186 0 [some (.inr (.inr a0)), some (.inl x1)] [] h) = _
  refine A_aload_n d_186_0 rfl ?_
  refine A_getfI rfl d_186_1 kF_6_213 (by decide) (fun v1 => ?_)
  refine A_bipush d_186_4 (by decide) ?_
  refine A_ne (t := 11) d_186_6 (by decide) ?_ ?_
  · refine A_aload_n d_186_11 rfl ?_
    refine A_getfA rfl d_186_12 kF_6_47 (fun v12 => ?_)
    refine A_aload_n d_186_15 rfl ?_
    refine A_getfI rfl d_186_16 kF_6_213 (by decide) (fun v16 => ?_)
    refine A_iload_n d_186_19 rfl ?_
    refine A_iast rfl d_186_20 (fun h20 => ?_)
    refine A_aload_n d_186_21 rfl ?_
    refine A_dup d_186_22 rfl ?_
    refine A_getfI rfl d_186_23 kF_6_213 (by decide) (fun v23 => ?_)
    refine A_iconst d_186_26 (by decide) ?_
    refine A_iadd d_186_27 ?_
    refine A_putfI rfl d_186_28 kF_6_213 rfl (fun h28 => ?_)
    refine A_iconst d_186_31 (by decide) ?_
    exact A_ireti rfl d_186_32
  · refine A_iconst d_186_9 (by decide) ?_
    exact A_ireti rfl d_186_10
set_option maxRecDepth 20000 in
theorem q_Md_pops (a0 : Nat) (x1 : Int) (h : mH) (ho : isO h a0 6 = true) : F_Md_pops a0 x1 h =
  (gfd 6 24 h a0).bind fun v1 =>
  if v1 ≠ 0 then
    ((gfd 6 24 h a0).bind fun v11 =>
    (pfd 6 24 h a0 (w32 (v11 - 1))).bind fun h16 =>
    (gfd 6 22 h16 a0).bind fun v20 =>
    (gfd 6 23 h16 a0).bind fun v25 =>
    (gfd 6 24 h16 a0).bind fun v29 =>
    (ald 10 h16 v25.toNat v29).bind fun v32 =>
    (ast h16 v20.toNat x1 v32).bind fun h33 =>
    some (0, h33))
  else
    (some (5, h)) := by
  refine (congrArg asI (if_pos ho)).trans ?_
  show asI (Lim 187 0 [some (.inr (.inr a0)), some (.inl x1)] [] h) = _
  refine A_aload_n d_187_0 rfl ?_
  refine A_getfI rfl d_187_1 kF_6_213 (by decide) (fun v1 => ?_)
  refine A_ne0 (t := 9) d_187_4 (by decide) ?_ ?_
  · refine A_aload_n d_187_9 rfl ?_
    refine A_dup d_187_10 rfl ?_
    refine A_getfI rfl d_187_11 kF_6_213 (by decide) (fun v11 => ?_)
    refine A_iconst d_187_14 (by decide) ?_
    refine A_isub d_187_15 ?_
    refine A_putfI rfl d_187_16 kF_6_213 rfl (fun h16 => ?_)
    refine A_aload_n d_187_19 rfl ?_
    refine A_getfA rfl d_187_20 kF_6_44 (fun v20 => ?_)
    refine A_iload_n d_187_23 rfl ?_
    refine A_aload_n d_187_24 rfl ?_
    refine A_getfA rfl d_187_25 kF_6_47 (fun v25 => ?_)
    refine A_aload_n d_187_28 rfl ?_
    refine A_getfI rfl d_187_29 kF_6_213 (by decide) (fun v29 => ?_)
    refine A_iald rfl d_187_32 (fun v32 => ?_)
    refine A_iast rfl d_187_33 (fun h33 => ?_)
    refine A_iconst d_187_34 (by decide) ?_
    exact A_ireti rfl d_187_35
  · refine A_iconst d_187_7 (by decide) ?_
    exact A_ireti rfl d_187_8
set_option maxRecDepth 20000 in
theorem q_Md_moves (a0 : Nat) (x1 : Int) (x2 : Int) (h : mH) (ho : isO h a0 6 = true) : F_Md_moves a0 x1 x2 h =
  (gfd 6 22 h a0).bind fun v1 =>
  (ast h v1.toNat x1 x2).bind fun h6 =>
  some (0, h6) := by
  refine (congrArg asI (if_pos ho)).trans ?_
  show asI (Lim 188 0 [some (.inr (.inr a0)), some (.inl x1), some (.inl x2)] [] h) = _
  refine A_aload_n d_188_0 rfl ?_
  refine A_getfA rfl d_188_1 kF_6_44 (fun v1 => ?_)
  refine A_iload_n d_188_4 rfl ?_
  refine A_iload_n d_188_5 rfl ?_
  refine A_iast rfl d_188_6 (fun h6 => ?_)
  refine A_iconst d_188_7 (by decide) ?_
  exact A_ireti rfl d_188_8
set_option maxRecDepth 20000 in
theorem q_Md_goes (a0 : Nat) (x1 : Int) (x2 : Int) (h : mH) (ho : isO h a0 6 = true) : F_Md_goes a0 x1 x2 h =
  (gfd 6 14 h a0).bind fun v1 =>
  (ald 10 h v1.toNat (w32 (x2 + 1))).bind fun v7 =>
  (gfd 6 14 h a0).bind fun v10 =>
  (ald 10 h v10.toNat (w32 (x2 + 2))).bind fun v16 =>
  (gfd 6 14 h a0).bind fun v20 =>
  (ald 10 h v20.toNat (w32 (x2 + 3))).bind fun v26 =>
  (gfd 6 14 h a0).bind fun v30 =>
  (ald 10 h v30.toNat x2).bind fun v34 =>
  if v34 = 0 then
    ((gfd 6 22 h a0).bind fun v103 =>
    (ald 10 h v103.toNat v16).bind fun v108 =>
    (F_Md_moves a0 v7 v108 h).bind fun q109 =>
    some (q109.1, q109.2))
  else if v34 = 1 then
    ((F_Md_moves a0 v7 1 h).bind fun q116 =>
    some (q116.1, q116.2))
  else if v34 = 2 then
    ((gfd 6 22 h a0).bind fun v121 =>
    (ald 10 h v121.toNat v7).bind fun v125 =>
    if v125 ≠ 1 then
      (some (1, h))
    else
      ((gfd 6 22 h a0).bind fun v131 =>
      (ald 10 h v131.toNat v16).bind fun v136 =>
      if v136 ≠ 1 then
        (some (1, h))
      else
        (some (0, h))))
  else if v34 = 3 then
    ((F_Md_moves a0 v7 (w32 (10 + (w32 (8 * v16)))) h).bind fun q157 =>
    some (q157.1, q157.2))
  else if v34 = 4 then
    ((F_Md_puts a0 x1 v7 v16 v26 h).bind fun q168 =>
    some (q168.1, q168.2))
  else if v34 = 5 then
    ((F_Md_gets a0 v7 v16 v26 h).bind fun q178 =>
    some (q178.1, q178.2))
  else if v34 = 6 then
    ((gfd 6 22 h a0).bind fun v184 =>
    (ald 10 h v184.toNat v7).bind fun v188 =>
    (F_Md_pushes a0 v188 h).bind fun q189 =>
    some (q189.1, q189.2))
  else if v34 = 7 then
    ((F_Md_pops a0 v7 h).bind fun q195 =>
    some (q195.1, q195.2))
  else if v34 = 8 then
    ((F_Md_moves a0 v7 (w32 (6 + v16)) h).bind fun q206 =>
    some (q206.1, q206.2))
  else if v34 = 9 then
    ((F_Md_jumps a0 x1 v7 h).bind fun q213 =>
    some (q213.1, q213.2))
  else if v34 = 10 then
    ((gfd 6 22 h a0).bind fun v218 =>
    (ald 10 h v218.toNat v7).bind fun v222 =>
    if v222 ≠ 1 then
      (some (1, h))
    else
      ((F_Md_jumps a0 x1 v16 h).bind fun q231 =>
      some (q231.1, q231.2)))
  else if v34 = 11 then
    ((gfd 6 22 h a0).bind fun v240 =>
    (ast h v240.toNat 3 (w32 (6 + v16))).bind fun h249 =>
    (F_Md_jumps a0 x1 v7 h249).bind fun q253 =>
    some (q253.1, q253.2))
  else if v34 = 12 then
    ((gfd 6 22 h a0).bind fun v258 =>
    (ald 10 h v258.toNat v7).bind fun v262 =>
    (F_Md_in v262 6 9 h).bind fun q270 =>
    if q270.1 = 0 then
      (some (8, q270.2))
    else
      ((gfd 6 22 q270.2 a0).bind fun v279 =>
      (ald 10 q270.2 v279.toNat v7).bind fun v283 =>
      (F_Md_jumps a0 x1 (w32 (v283 - 6)) q270.2).bind fun q287 =>
      some (q287.1, q287.2)))
  else ((gfd 6 22 h a0).bind fun v297 =>
    (ald 10 h v297.toNat 0).bind fun v301 =>
    if v301 ≠ 1 then
      (some (1, h))
    else
      (some (0, h))) := by
  refine (congrArg asI (if_pos ho)).trans ?_
  show asI (Lim 189 0 [some (.inr (.inr a0)), some (.inl x1), some (.inl x2), none, none, none] [] h) = _
  refine A_aload_n d_189_0 rfl ?_
  refine A_getfA rfl d_189_1 kF_6_37 (fun v1 => ?_)
  refine A_iload_n d_189_4 rfl ?_
  refine A_iconst d_189_5 (by decide) ?_
  refine A_iadd d_189_6 ?_
  refine A_iald rfl d_189_7 (fun v7 => ?_)
  refine A_istore_n d_189_8 rfl ?_
  refine A_aload_n d_189_9 rfl ?_
  refine A_getfA rfl d_189_10 kF_6_37 (fun v10 => ?_)
  refine A_iload_n d_189_13 rfl ?_
  refine A_iconst d_189_14 (by decide) ?_
  refine A_iadd d_189_15 ?_
  refine A_iald rfl d_189_16 (fun v16 => ?_)
  refine A_istore d_189_17 rfl ?_
  refine A_aload_n d_189_19 rfl ?_
  refine A_getfA rfl d_189_20 kF_6_37 (fun v20 => ?_)
  refine A_iload_n d_189_23 rfl ?_
  refine A_iconst d_189_24 (by decide) ?_
  refine A_iadd d_189_25 ?_
  refine A_iald rfl d_189_26 (fun v26 => ?_)
  refine A_istore d_189_27 rfl ?_
  refine A_aload_n d_189_29 rfl ?_
  refine A_getfA rfl d_189_30 kF_6_37 (fun v30 => ?_)
  refine A_iload_n d_189_33 rfl ?_
  refine A_iald rfl d_189_34 (fun v34 => ?_)
  refine A_if (fun e35_0 => ?_) (fun e35_0 => ?_)
  · refine A_tab (t := 100) d_189_35 (by rw [e35_0]; decide) ?_
    refine A_aload_n d_189_100 rfl ?_
    refine A_iload_n d_189_101 rfl ?_
    refine A_aload_n d_189_102 rfl ?_
    refine A_getfA rfl d_189_103 kF_6_44 (fun v103 => ?_)
    refine A_iload d_189_106 rfl ?_
    refine A_iald rfl d_189_108 (fun v108 => ?_)
    refine A_call (t := 188) (way := 0) rfl d_189_109 rfl (cl kI_6_240 rfl) rfl (by decide) rfl (fun q109 => ?_)
    exact A_ireti rfl d_189_112
  refine A_if (fun e35_1 => ?_) (fun e35_1 => ?_)
  · refine A_tab (t := 113) d_189_35 (by rw [e35_1]; decide) ?_
    refine A_aload_n d_189_113 rfl ?_
    refine A_iload_n d_189_114 rfl ?_
    refine A_iconst d_189_115 (by decide) ?_
    refine A_call (t := 188) (way := 0) rfl d_189_116 rfl (cl kI_6_240 rfl) rfl (by decide) rfl (fun q116 => ?_)
    exact A_ireti rfl d_189_119
  refine A_if (fun e35_2 => ?_) (fun e35_2 => ?_)
  · refine A_tab (t := 120) d_189_35 (by rw [e35_2]; decide) ?_
    refine A_aload_n d_189_120 rfl ?_
    refine A_getfA rfl d_189_121 kF_6_44 (fun v121 => ?_)
    refine A_iload_n d_189_124 rfl ?_
    refine A_iald rfl d_189_125 (fun v125 => ?_)
    refine A_iconst d_189_126 (by decide) ?_
    refine A_ne (t := 145) d_189_127 (by decide) ?_ ?_
    · refine A_iconst d_189_145 (by decide) ?_
      exact A_ireti rfl d_189_146
    · refine A_aload_n d_189_130 rfl ?_
      refine A_getfA rfl d_189_131 kF_6_44 (fun v131 => ?_)
      refine A_iload d_189_134 rfl ?_
      refine A_iald rfl d_189_136 (fun v136 => ?_)
      refine A_iconst d_189_137 (by decide) ?_
      refine A_ne (t := 145) d_189_138 (by decide) ?_ ?_
      · refine A_iconst d_189_145 (by decide) ?_
        exact A_ireti rfl d_189_146
      · refine A_iconst d_189_141 (by decide) ?_
        refine A_goto (t := 146) d_189_142 (by decide) ?_
        exact A_ireti rfl d_189_146
  refine A_if (fun e35_3 => ?_) (fun e35_3 => ?_)
  · refine A_tab (t := 147) d_189_35 (by rw [e35_3]; decide) ?_
    refine A_aload_n d_189_147 rfl ?_
    refine A_iload_n d_189_148 rfl ?_
    refine A_bipush d_189_149 (by decide) ?_
    refine A_bipush d_189_151 (by decide) ?_
    refine A_iload d_189_153 rfl ?_
    refine A_imul d_189_155 ?_
    refine A_iadd d_189_156 ?_
    refine A_call (t := 188) (way := 0) rfl d_189_157 rfl (cl kI_6_240 rfl) rfl (by decide) rfl (fun q157 => ?_)
    exact A_ireti rfl d_189_160
  refine A_if (fun e35_4 => ?_) (fun e35_4 => ?_)
  · refine A_tab (t := 161) d_189_35 (by rw [e35_4]; decide) ?_
    refine A_aload_n d_189_161 rfl ?_
    refine A_iload_n d_189_162 rfl ?_
    refine A_iload_n d_189_163 rfl ?_
    refine A_iload d_189_164 rfl ?_
    refine A_iload d_189_166 rfl ?_
    refine A_call (t := 184) (way := 0) rfl d_189_168 rfl (cl kI_6_243 rfl) rfl (by decide) rfl (fun q168 => ?_)
    exact A_ireti rfl d_189_171
  refine A_if (fun e35_5 => ?_) (fun e35_5 => ?_)
  · refine A_tab (t := 172) d_189_35 (by rw [e35_5]; decide) ?_
    refine A_aload_n d_189_172 rfl ?_
    refine A_iload_n d_189_173 rfl ?_
    refine A_iload d_189_174 rfl ?_
    refine A_iload d_189_176 rfl ?_
    refine A_call (t := 185) (way := 0) rfl d_189_178 rfl (cl kI_6_247 rfl) rfl (by decide) rfl (fun q178 => ?_)
    exact A_ireti rfl d_189_181
  refine A_if (fun e35_6 => ?_) (fun e35_6 => ?_)
  · refine A_tab (t := 182) d_189_35 (by rw [e35_6]; decide) ?_
    refine A_aload_n d_189_182 rfl ?_
    refine A_aload_n d_189_183 rfl ?_
    refine A_getfA rfl d_189_184 kF_6_44 (fun v184 => ?_)
    refine A_iload_n d_189_187 rfl ?_
    refine A_iald rfl d_189_188 (fun v188 => ?_)
    refine A_call (t := 186) (way := 0) rfl d_189_189 rfl (cl kI_6_250 rfl) rfl (by decide) rfl (fun q189 => ?_)
    exact A_ireti rfl d_189_192
  refine A_if (fun e35_7 => ?_) (fun e35_7 => ?_)
  · refine A_tab (t := 193) d_189_35 (by rw [e35_7]; decide) ?_
    refine A_aload_n d_189_193 rfl ?_
    refine A_iload_n d_189_194 rfl ?_
    refine A_call (t := 187) (way := 0) rfl d_189_195 rfl (cl kI_6_253 rfl) rfl (by decide) rfl (fun q195 => ?_)
    exact A_ireti rfl d_189_198
  refine A_if (fun e35_8 => ?_) (fun e35_8 => ?_)
  · refine A_tab (t := 199) d_189_35 (by rw [e35_8]; decide) ?_
    refine A_aload_n d_189_199 rfl ?_
    refine A_iload_n d_189_200 rfl ?_
    refine A_bipush d_189_201 (by decide) ?_
    refine A_iload d_189_203 rfl ?_
    refine A_iadd d_189_205 ?_
    refine A_call (t := 188) (way := 0) rfl d_189_206 rfl (cl kI_6_240 rfl) rfl (by decide) rfl (fun q206 => ?_)
    exact A_ireti rfl d_189_209
  refine A_if (fun e35_9 => ?_) (fun e35_9 => ?_)
  · refine A_tab (t := 210) d_189_35 (by rw [e35_9]; decide) ?_
    refine A_aload_n d_189_210 rfl ?_
    refine A_iload_n d_189_211 rfl ?_
    refine A_iload_n d_189_212 rfl ?_
    refine A_call (t := 180) (way := 0) rfl d_189_213 rfl (cl kI_6_256 rfl) rfl (by decide) rfl (fun q213 => ?_)
    exact A_ireti rfl d_189_216
  refine A_if (fun e35_10 => ?_) (fun e35_10 => ?_)
  · refine A_tab (t := 217) d_189_35 (by rw [e35_10]; decide) ?_
    refine A_aload_n d_189_217 rfl ?_
    refine A_getfA rfl d_189_218 kF_6_44 (fun v218 => ?_)
    refine A_iload_n d_189_221 rfl ?_
    refine A_iald rfl d_189_222 (fun v222 => ?_)
    refine A_iconst d_189_223 (by decide) ?_
    refine A_ne (t := 237) d_189_224 (by decide) ?_ ?_
    · refine A_iconst d_189_237 (by decide) ?_
      exact A_ireti rfl d_189_238
    · refine A_aload_n d_189_227 rfl ?_
      refine A_iload_n d_189_228 rfl ?_
      refine A_iload d_189_229 rfl ?_
      refine A_call (t := 180) (way := 0) rfl d_189_231 rfl (cl kI_6_256 rfl) rfl (by decide) rfl (fun q231 => ?_)
      refine A_goto (t := 238) d_189_234 (by decide) ?_
      exact A_ireti rfl d_189_238
  refine A_if (fun e35_11 => ?_) (fun e35_11 => ?_)
  · refine A_tab (t := 239) d_189_35 (by rw [e35_11]; decide) ?_
    refine A_aload_n d_189_239 rfl ?_
    refine A_getfA rfl d_189_240 kF_6_44 (fun v240 => ?_)
    refine A_iconst d_189_243 (by decide) ?_
    refine A_bipush d_189_244 (by decide) ?_
    refine A_iload d_189_246 rfl ?_
    refine A_iadd d_189_248 ?_
    refine A_iast rfl d_189_249 (fun h249 => ?_)
    refine A_aload_n d_189_250 rfl ?_
    refine A_iload_n d_189_251 rfl ?_
    refine A_iload_n d_189_252 rfl ?_
    refine A_call (t := 180) (way := 0) rfl d_189_253 rfl (cl kI_6_256 rfl) rfl (by decide) rfl (fun q253 => ?_)
    exact A_ireti rfl d_189_256
  refine A_if (fun e35_12 => ?_) (fun e35_12 => ?_)
  · refine A_tab (t := 257) d_189_35 (by rw [e35_12]; decide) ?_
    refine A_aload_n d_189_257 rfl ?_
    refine A_getfA rfl d_189_258 kF_6_44 (fun v258 => ?_)
    refine A_iload_n d_189_261 rfl ?_
    refine A_iald rfl d_189_262 (fun v262 => ?_)
    refine A_i2l d_189_263 ?_
    refine A_ldc2 d_189_264 kJ_6_179 ?_
    refine A_ldc2 d_189_267 kJ_6_183 ?_
    refine A_call (t := 135) (way := 2) rfl d_189_270 rfl (cl kI_6_106 rfl) rfl (by decide) rfl (fun q270 => ?_)
    refine A_eq0 (t := 293) d_189_273 (by decide) ?_ ?_
    · refine A_bipush d_189_293 (by decide) ?_
      exact A_ireti rfl d_189_295
    · refine A_aload_n d_189_276 rfl ?_
      refine A_iload_n d_189_277 rfl ?_
      refine A_aload_n d_189_278 rfl ?_
      refine A_getfA rfl d_189_279 kF_6_44 (fun v279 => ?_)
      refine A_iload_n d_189_282 rfl ?_
      refine A_iald rfl d_189_283 (fun v283 => ?_)
      refine A_bipush d_189_284 (by decide) ?_
      refine A_isub d_189_286 ?_
      refine A_call (t := 180) (way := 0) rfl d_189_287 rfl (cl kI_6_256 rfl) rfl (by decide) rfl (fun q287 => ?_)
      refine A_goto (t := 295) d_189_290 (by decide) ?_
      exact A_ireti rfl d_189_295
  refine A_tab (t := 296) d_189_35 (by rw [if_pos (by omega)]; decide) ?_
  refine A_aload_n d_189_296 rfl ?_
  refine A_getfA rfl d_189_297 kF_6_44 (fun v297 => ?_)
  refine A_iconst d_189_300 (by decide) ?_
  refine A_iald rfl d_189_301 (fun v301 => ?_)
  refine A_iconst d_189_302 (by decide) ?_
  refine A_ne (t := 310) d_189_303 (by decide) ?_ ?_
  · refine A_iconst d_189_310 (by decide) ?_
    exact A_ireti rfl d_189_311
  · refine A_iconst d_189_306 (by decide) ?_
    refine A_goto (t := 311) d_189_307 (by decide) ?_
    exact A_ireti rfl d_189_311
set_option maxRecDepth 20000 in
theorem q_Md_ends_12 (x0 : Int) (h : mH) : B_Md_ends_12 x0 h =
  some (1, h) := by
  unfold B_Md_ends_12
  refine A_iconst d_190_12 (by decide) ?_
  refine A_goto (t := 17) d_190_13 (by decide) ?_
  exact A_iretz rfl d_190_17 (by decide)
set_option maxRecDepth 20000 in
theorem q_Md_ends (x0 : Int) (h : mH) : F_Md_ends x0 h =
  if x0 = 9 then
    (B_Md_ends_12 x0 h)
  else
    (if x0 ≤ 10 then
      (some (0, h))
    else
      (B_Md_ends_12 x0 h)) := by
  refine (congrArg asI (if_pos rfl)).trans ?_
  show asI (Lim 190 0 [some (.inl x0)] [] h) = _
  refine A_iload_n d_190_0 rfl ?_
  refine A_bipush d_190_1 (by decide) ?_
  refine A_eq (t := 12) d_190_3 (by decide) ?_ ?_
  · exact rfl
  · refine A_iload_n d_190_6 rfl ?_
    refine A_bipush d_190_7 (by decide) ?_
    refine A_le (t := 16) d_190_9 (by decide) ?_ ?_
    · refine A_iconst d_190_16 (by decide) ?_
      exact A_iretz rfl d_190_17 (by decide)
    · exact rfl
set_option maxRecDepth 20000 in
theorem q_Md_checks_31 (a0 : Nat) (x1 : Int) (x2 : Int) (x3 : Int) (x4 : Int) (x5 : Int) (x6 : Int) (h : mH) : B_Md_checks_31 a0 x1 x2 x3 x4 x5 x6 h =
  if x4 ≤ x6 then
    (B_Md_checks_131 a0 x1 x2 x3 x4 x5 x6 h)
  else
    (if x3 ≤ x6 then
      (B_Md_checks_131 a0 x1 x2 x3 x4 x5 x6 h)
    else
      ((gfd 6 27 h a0).bind fun v45 =>
      if v45 ≠ 0 then
        (B_Md_checks_131 a0 x1 x2 x3 x4 x5 x6 h)
      else
        (if x5 = 0 then
          ((F_Md_spot x1 x2 x6 h).bind fun q68 =>
          (F_Md_goes a0 x1 q68.1 q68.2).bind fun q71 =>
          B_Md_checks_74 a0 x1 x2 x3 x4 x5 x6 q71.1 a0 q71.2)
        else
          (B_Md_checks_74 a0 x1 x2 x3 x4 x5 x6 9 a0 h)))) := by
  unfold B_Md_checks_31
  refine A_iload d_191_31 rfl ?_
  refine A_iload d_191_33 rfl ?_
  refine A_ge (t := 131) d_191_35 (by decide) ?_ ?_
  · exact rfl
  · refine A_iload d_191_38 rfl ?_
    refine A_iload_n d_191_40 rfl ?_
    refine A_ge (t := 131) d_191_41 (by decide) ?_ ?_
    · exact rfl
    · refine A_aload_n d_191_44 rfl ?_
      refine A_getfI rfl d_191_45 kF_6_262 (by decide) (fun v45 => ?_)
      refine A_ne0 (t := 131) d_191_48 (by decide) ?_ ?_
      · exact rfl
      · refine A_aload_n d_191_51 rfl ?_
        refine A_iload d_191_52 rfl ?_
        refine A_eq0 (t := 62) d_191_54 (by decide) ?_ ?_
        · refine A_aload_n d_191_62 rfl ?_
          refine A_iload_n d_191_63 rfl ?_
          refine A_iload_n d_191_64 rfl ?_
          refine A_iload_n d_191_65 rfl ?_
          refine A_iload d_191_66 rfl ?_
          refine A_call (t := 159) (way := 2) rfl d_191_68 rfl (cl kI_6_193 rfl) rfl (by decide) rfl (fun q68 => ?_)
          refine A_call (t := 189) (way := 0) rfl d_191_71 rfl (cl kI_6_268 rfl) rfl (by decide) rfl (fun q71 => ?_)
          exact rfl
        · refine A_bipush d_191_57 (by decide) ?_
          refine A_goto (t := 74) d_191_59 (by decide) ?_
          exact rfl
set_option maxRecDepth 20000 in
theorem q_Md_checks_74 (a0 : Nat) (x1 : Int) (x2 : Int) (x3 : Int) (x4 : Int) (x5 : Int) (x6 : Int) (s0 : Int) (sa1 : Nat) (h : mH) : B_Md_checks_74 a0 x1 x2 x3 x4 x5 x6 s0 sa1 h =
  (pfd 6 27 h sa1 s0).bind fun h74 =>
  if x5 ≠ 0 then
    (B_Md_checks_100 a0 x1 x2 x3 x4 x5 x6 h74)
  else
    ((gfd 6 14 h74 a0).bind fun v83 =>
    (F_Md_spot x1 x2 x6 h74).bind fun q90 =>
    (ald 10 q90.2 v83.toNat q90.1).bind fun v93 =>
    (F_Md_ends v93 q90.2).bind fun q94 =>
    if q94.1 = 0 then
      (B_Md_checks_105 a0 x1 x2 x3 x4 x5 x6 0 q94.2)
    else
      (B_Md_checks_100 a0 x1 x2 x3 x4 x5 x6 q94.2)) := by
  unfold B_Md_checks_74
  refine A_putfI rfl d_191_74 kF_6_262 rfl (fun h74 => ?_)
  refine A_iload d_191_77 rfl ?_
  refine A_ne0 (t := 100) d_191_79 (by decide) ?_ ?_
  · exact rfl
  · refine A_aload_n d_191_82 rfl ?_
    refine A_getfA rfl d_191_83 kF_6_37 (fun v83 => ?_)
    refine A_iload_n d_191_86 rfl ?_
    refine A_iload_n d_191_87 rfl ?_
    refine A_iload d_191_88 rfl ?_
    refine A_call (t := 159) (way := 2) rfl d_191_90 rfl (cl kI_6_193 rfl) rfl (by decide) rfl (fun q90 => ?_)
    refine A_iald rfl d_191_93 (fun v93 => ?_)
    refine A_call (t := 190) (way := 2) rfl d_191_94 rfl (cl kI_6_271 rfl) rfl (by decide) rfl (fun q94 => ?_)
    refine A_eq0 (t := 104) d_191_97 (by decide) ?_ ?_
    · refine A_iconst d_191_104 (by decide) ?_
      exact rfl
    · exact rfl
set_option maxRecDepth 20000 in
theorem q_Md_checks_100 (a0 : Nat) (x1 : Int) (x2 : Int) (x3 : Int) (x4 : Int) (x5 : Int) (x6 : Int) (h : mH) : B_Md_checks_100 a0 x1 x2 x3 x4 x5 x6 h =
  B_Md_checks_105 a0 x1 x2 x3 x4 x5 x6 1 h := by
  unfold B_Md_checks_100
  refine A_iconst d_191_100 (by decide) ?_
  refine A_goto (t := 105) d_191_101 (by decide) ?_
  exact rfl
set_option maxRecDepth 20000 in
theorem q_Md_checks_105 (a0 : Nat) (x1 : Int) (x2 : Int) (x3 : Int) (x4 : Int) (x5 : Int) (x6 : Int) (s0 : Int) (h : mH) : B_Md_checks_105 a0 x1 x2 x3 x4 x5 x6 s0 h =
  (gfd 6 27 h a0).bind fun v109 =>
  if v109 ≤ 0 then
    (B_Md_checks_122 a0 x1 x2 x3 x4 s0 x6 (-4) a0 h)
  else
    (B_Md_checks_122 a0 x1 x2 x3 x4 s0 x6 x6 a0 h) := by
  unfold B_Md_checks_105
  refine A_istore d_191_105 rfl ?_
  refine A_aload_n d_191_107 rfl ?_
  refine A_aload_n d_191_108 rfl ?_
  refine A_getfI rfl d_191_109 kF_6_262 (by decide) (fun v109 => ?_)
  refine A_le0 (t := 120) d_191_112 (by decide) ?_ ?_
  · refine A_bipush d_191_120 (by decide) ?_
    exact rfl
  · refine A_iload d_191_115 rfl ?_
    refine A_goto (t := 122) d_191_117 (by decide) ?_
    exact rfl
set_option maxRecDepth 20000 in
theorem q_Md_checks_122 (a0 : Nat) (x1 : Int) (x2 : Int) (x3 : Int) (x4 : Int) (x5 : Int) (x6 : Int) (s0 : Int) (sa1 : Nat) (h : mH) : B_Md_checks_122 a0 x1 x2 x3 x4 x5 x6 s0 sa1 h =
  (pfd 6 26 h sa1 s0).bind fun h122 =>
  B_Md_checks_31 a0 x1 x2 x3 x4 x5 (w32 (x6 + 1)) h122 := by
  unfold B_Md_checks_122
  refine A_putfI rfl d_191_122 kF_6_265 rfl (fun h122 => ?_)
  refine A_iinc d_191_125 (by decide) rfl rfl ?_
  refine A_goto (t := 31) d_191_128 (by decide) ?_
  exact rfl
set_option maxRecDepth 20000 in
theorem q_Md_checks_131 (a0 : Nat) (x1 : Int) (x2 : Int) (x3 : Int) (x4 : Int) (x5 : Int) (x6 : Int) (h : mH) : B_Md_checks_131 a0 x1 x2 x3 x4 x5 x6 h =
  (gfd 6 27 h a0).bind fun v132 =>
  if v132 ≠ 0 then
    (some h)
  else
    (if x3 ≤ x4 then
      (some h)
    else
      (if x5 ≠ 0 then
        (some h)
      else
        ((pfd 6 27 h a0 10).bind fun h152 =>
        (pfd 6 26 h152 a0 x4).bind fun h158 =>
        some h158))) := by
  unfold B_Md_checks_131
  refine A_aload_n d_191_131 rfl ?_
  refine A_getfI rfl d_191_132 kF_6_262 (by decide) (fun v132 => ?_)
  refine A_ne0 (t := 161) d_191_135 (by decide) ?_ ?_
  · exact A_ret rfl d_191_161
  · refine A_iload_n d_191_138 rfl ?_
    refine A_iload d_191_139 rfl ?_
    refine A_le (t := 161) d_191_141 (by decide) ?_ ?_
    · exact A_ret rfl d_191_161
    · refine A_iload d_191_144 rfl ?_
      refine A_ne0 (t := 161) d_191_146 (by decide) ?_ ?_
      · exact A_ret rfl d_191_161
      · refine A_aload_n d_191_149 rfl ?_
        refine A_bipush d_191_150 (by decide) ?_
        refine A_putfI rfl d_191_152 kF_6_262 rfl (fun h152 => ?_)
        refine A_aload_n d_191_155 rfl ?_
        refine A_iload d_191_156 rfl ?_
        refine A_putfI rfl d_191_158 kF_6_265 rfl (fun h158 => ?_)
        exact A_ret rfl d_191_161
set_option maxRecDepth 20000 in
theorem q_Md_checks (a0 : Nat) (x1 : Int) (x2 : Int) (x3 : Int) (h : mH) (ho : isO h a0 6 = true) : F_Md_checks a0 x1 x2 x3 h =
  (F_Md_stands a0 x1 x2 h).bind fun h3 =>
  (pfd 6 27 h3 a0 0).bind fun h8 =>
  (pfd 6 26 h8 a0 (-4)).bind fun h14 =>
  (F_Md_many a0 x1 x2 h14).bind fun q20 =>
  B_Md_checks_31 a0 x1 x2 x3 q20.1 0 0 q20.2 := by
  refine (congrArg asU (if_pos ho)).trans ?_
  show asU (Lim 191 0 [some (.inr (.inr a0)), some (.inl x1), some (.inl x2), some (.inl x3), none, none, none] [] h) = _
  refine A_aload_n d_191_0 rfl ?_
  refine A_iload_n d_191_1 rfl ?_
  refine A_iload_n d_191_2 rfl ?_
  refine A_callU (t := 177) (way := 0) rfl d_191_3 rfl (cl kI_6_259 rfl) rfl rfl rfl (fun h3 => ?_)
  refine A_aload_n d_191_6 rfl ?_
  refine A_iconst d_191_7 (by decide) ?_
  refine A_putfI rfl d_191_8 kF_6_262 rfl (fun h8 => ?_)
  refine A_aload_n d_191_11 rfl ?_
  refine A_bipush d_191_12 (by decide) ?_
  refine A_putfI rfl d_191_14 kF_6_265 rfl (fun h14 => ?_)
  refine A_aload_n d_191_17 rfl ?_
  refine A_iload_n d_191_18 rfl ?_
  refine A_iload_n d_191_19 rfl ?_
  refine A_call (t := 160) (way := 0) rfl d_191_20 rfl (cl kI_6_176 rfl) rfl (by decide) rfl (fun q20 => ?_)
  refine A_istore d_191_23 rfl ?_
  refine A_iconst d_191_25 (by decide) ?_
  refine A_istore d_191_26 rfl ?_
  refine A_iconst d_191_28 (by decide) ?_
  refine A_istore d_191_29 rfl ?_
  exact rfl
set_option maxRecDepth 20000 in
theorem q_Md_isSure (a0 : Nat) (x1 : Int) (x2 : Int) (h : mH) (ho : isO h a0 6 = true) : F_Md_isSure a0 x1 x2 h =
  (F_Md_checks a0 x1 x2 9 h).bind fun h5 =>
  (gfd 6 27 h5 a0).bind fun v9 =>
  if v9 ≠ 0 then
    (some (0, h5))
  else
    (some (1, h5)) := by
  refine (congrArg asI (if_pos ho)).trans ?_
  show asI (Lim 192 0 [some (.inr (.inr a0)), some (.inl x1), some (.inl x2)] [] h) = _
  refine A_aload_n d_192_0 rfl ?_
  refine A_iload_n d_192_1 rfl ?_
  refine A_iload_n d_192_2 rfl ?_
  refine A_bipush d_192_3 (by decide) ?_
  refine A_callU (t := 191) (way := 0) rfl d_192_5 rfl (cl kI_6_274 rfl) rfl rfl rfl (fun h5 => ?_)
  refine A_aload_n d_192_8 rfl ?_
  refine A_getfI rfl d_192_9 kF_6_262 (by decide) (fun v9 => ?_)
  refine A_ne0 (t := 19) d_192_12 (by decide) ?_ ?_
  · refine A_iconst d_192_19 (by decide) ?_
    exact A_iretz rfl d_192_20 (by decide)
  · refine A_iconst d_192_15 (by decide) ?_
    refine A_goto (t := 20) d_192_16 (by decide) ?_
    exact A_iretz rfl d_192_20 (by decide)
set_option maxRecDepth 20000 in
theorem q_Md_check (a0 : Nat) (x1 : Int) (h : mH) (ho : isO h a0 6 = true) : F_Md_check a0 x1 h =
  (F_Md_isLabel a0 x1 h).bind fun q2 =>
  if q2.1 ≠ 0 then
    ((F_Md_checks a0 0 x1 9 q2.2).bind fun h15 =>
    (gfd 6 26 h15 a0).bind fun v19 =>
    some (v19, h15))
  else
    (some ((-1), q2.2)) := by
  refine (congrArg asI (if_pos ho)).trans ?_
  show asI (Lim 193 0 [some (.inr (.inr a0)), some (.inl x1)] [] h) = _
  refine A_aload_n d_193_0 rfl ?_
  refine A_iload_n d_193_1 rfl ?_
  refine A_call (t := 158) (way := 0) rfl d_193_2 rfl (cl kI_6_172 rfl) rfl (by decide) rfl (fun q2 => ?_)
  refine A_ne0 (t := 10) d_193_5 (by decide) ?_ ?_
  · refine A_aload_n d_193_10 rfl ?_
    refine A_iconst d_193_11 (by decide) ?_
    refine A_iload_n d_193_12 rfl ?_
    refine A_bipush d_193_13 (by decide) ?_
    refine A_callU (t := 191) (way := 0) rfl d_193_15 rfl (cl kI_6_274 rfl) rfl rfl rfl (fun h15 => ?_)
    refine A_aload_n d_193_18 rfl ?_
    refine A_getfI rfl d_193_19 kF_6_265 (by decide) (fun v19 => ?_)
    exact A_ireti rfl d_193_22
  · refine A_iconst d_193_8 (by decide) ?_
    exact A_ireti rfl d_193_9
set_option maxRecDepth 20000 in
theorem q_Md_reason (a0 : Nat) (x1 : Int) (h : mH) (ho : isO h a0 6 = true) : F_Md_reason a0 x1 h =
  (F_Md_isLabel a0 x1 h).bind fun q2 =>
  if q2.1 ≠ 0 then
    ((F_Md_checks a0 0 x1 9 q2.2).bind fun h15 =>
    (gfd 6 27 h15 a0).bind fun v19 =>
    if v19 ≠ 0 then
      ((gfd 6 27 h15 a0).bind fun v31 =>
      some (v31, h15))
    else
      (some ((-4), h15)))
  else
    (some ((-1), q2.2)) := by
  refine (congrArg asI (if_pos ho)).trans ?_
  show asI (Lim 194 0 [some (.inr (.inr a0)), some (.inl x1)] [] h) = _
  refine A_aload_n d_194_0 rfl ?_
  refine A_iload_n d_194_1 rfl ?_
  refine A_call (t := 158) (way := 0) rfl d_194_2 rfl (cl kI_6_172 rfl) rfl (by decide) rfl (fun q2 => ?_)
  refine A_ne0 (t := 10) d_194_5 (by decide) ?_ ?_
  · refine A_aload_n d_194_10 rfl ?_
    refine A_iconst d_194_11 (by decide) ?_
    refine A_iload_n d_194_12 rfl ?_
    refine A_bipush d_194_13 (by decide) ?_
    refine A_callU (t := 191) (way := 0) rfl d_194_15 rfl (cl kI_6_274 rfl) rfl rfl rfl (fun h15 => ?_)
    refine A_aload_n d_194_18 rfl ?_
    refine A_getfI rfl d_194_19 kF_6_262 (by decide) (fun v19 => ?_)
    refine A_ne0 (t := 30) d_194_22 (by decide) ?_ ?_
    · refine A_aload_n d_194_30 rfl ?_
      refine A_getfI rfl d_194_31 kF_6_262 (by decide) (fun v31 => ?_)
      exact A_ireti rfl d_194_34
    · refine A_bipush d_194_25 (by decide) ?_
      refine A_goto (t := 34) d_194_27 (by decide) ?_
      exact A_ireti rfl d_194_34
  · refine A_iconst d_194_8 (by decide) ?_
    exact A_ireti rfl d_194_9
set_option maxRecDepth 20000 in
theorem q_Md_ahead (a0 : Nat) (x1 : Int) (x2 : Int) (x3 : Int) (h : mH) (ho : isO h a0 6 = true) : F_Md_ahead a0 x1 x2 x3 h =
  (F_Md_isLabel a0 x1 h).bind fun q2 =>
  if q2.1 = 0 then
    (some ((-1), q2.2))
  else
    ((F_Md_many a0 0 x1 q2.2).bind fun q14 =>
    (F_Md_in x2 0 q14.1 q14.2).bind fun q18 =>
    if q18.1 = 0 then
      (some ((-1), q18.2))
    else
      ((F_Md_in x3 0 10 q18.2).bind fun q30 =>
      if q30.1 ≠ 0 then
        ((F_Md_checks a0 0 x1 x2 q30.2).bind fun h42 =>
        (gfd 6 27 h42 a0).bind fun v46 =>
        if v46 ≤ 0 then
          (if 4 ≤ x3 then
            (if x3 ≠ 4 then
              ((gfd 6 24 h42 a0).bind fun v85 =>
              if v85 ≤ w32 (x3 - 5) then
                (some ((-4), h42))
              else
                ((gfd 6 23 h42 a0).bind fun v92 =>
                (gfd 6 24 h42 a0).bind fun v96 =>
                (ald 10 h42 v92.toNat (w32 ((w32 (v96 - 1)) - (w32 (x3 - 5))))).bind fun v105 =>
                some (v105, h42)))
            else
              ((gfd 6 24 h42 a0).bind fun v75 =>
              some (v75, h42)))
          else
            ((gfd 6 22 h42 a0).bind fun v61 =>
            (ald 10 h42 v61.toNat x3).bind fun v65 =>
            some (v65, h42)))
        else
          (some ((-4), h42)))
      else
        (some ((-1), q30.2)))) := by
  refine (congrArg asI (if_pos ho)).trans ?_
  show asI (Lim 195 0 [some (.inr (.inr a0)), some (.inl x1), some (.inl x2), some (.inl x3)] [] h) = _
  refine A_aload_n d_195_0 rfl ?_
  refine A_iload_n d_195_1 rfl ?_
  refine A_call (t := 158) (way := 0) rfl d_195_2 rfl (cl kI_6_172 rfl) rfl (by decide) rfl (fun q2 => ?_)
  refine A_eq0 (t := 36) d_195_5 (by decide) ?_ ?_
  · refine A_iconst d_195_36 (by decide) ?_
    exact A_ireti rfl d_195_37
  · refine A_iload_n d_195_8 rfl ?_
    refine A_i2l d_195_9 ?_
    refine A_lconst d_195_10 (x := 0) rfl ?_
    refine A_aload_n d_195_11 rfl ?_
    refine A_iconst d_195_12 (by decide) ?_
    refine A_iload_n d_195_13 rfl ?_
    refine A_call (t := 160) (way := 0) rfl d_195_14 rfl (cl kI_6_176 rfl) rfl (by decide) rfl (fun q14 => ?_)
    refine A_i2l d_195_17 ?_
    refine A_call (t := 135) (way := 2) rfl d_195_18 rfl (cl kI_6_106 rfl) rfl (by decide) rfl (fun q18 => ?_)
    refine A_eq0 (t := 36) d_195_21 (by decide) ?_ ?_
    · refine A_iconst d_195_36 (by decide) ?_
      exact A_ireti rfl d_195_37
    · refine A_iload_n d_195_24 rfl ?_
      refine A_i2l d_195_25 ?_
      refine A_lconst d_195_26 (x := 0) rfl ?_
      refine A_ldc2 d_195_27 kJ_6_277 ?_
      refine A_call (t := 135) (way := 2) rfl d_195_30 rfl (cl kI_6_106 rfl) rfl (by decide) rfl (fun q30 => ?_)
      refine A_ne0 (t := 38) d_195_33 (by decide) ?_ ?_
      · refine A_aload_n d_195_38 rfl ?_
        refine A_iconst d_195_39 (by decide) ?_
        refine A_iload_n d_195_40 rfl ?_
        refine A_iload_n d_195_41 rfl ?_
        refine A_callU (t := 191) (way := 0) rfl d_195_42 rfl (cl kI_6_274 rfl) rfl rfl rfl (fun h42 => ?_)
        refine A_aload_n d_195_45 rfl ?_
        refine A_getfI rfl d_195_46 kF_6_262 (by decide) (fun v46 => ?_)
        refine A_le0 (t := 55) d_195_49 (by decide) ?_ ?_
        · refine A_iload_n d_195_55 rfl ?_
          refine A_iconst d_195_56 (by decide) ?_
          refine A_ge (t := 69) d_195_57 (by decide) ?_ ?_
          · refine A_iload_n d_195_69 rfl ?_
            refine A_iconst d_195_70 (by decide) ?_
            refine A_ne (t := 81) d_195_71 (by decide) ?_ ?_
            · refine A_iload_n d_195_81 rfl ?_
              refine A_iconst d_195_82 (by decide) ?_
              refine A_isub d_195_83 ?_
              refine A_aload_n d_195_84 rfl ?_
              refine A_getfI rfl d_195_85 kF_6_213 (by decide) (fun v85 => ?_)
              refine A_ge (t := 109) d_195_88 (by decide) ?_ ?_
              · refine A_bipush d_195_109 (by decide) ?_
                exact A_ireti rfl d_195_111
              · refine A_aload_n d_195_91 rfl ?_
                refine A_getfA rfl d_195_92 kF_6_47 (fun v92 => ?_)
                refine A_aload_n d_195_95 rfl ?_
                refine A_getfI rfl d_195_96 kF_6_213 (by decide) (fun v96 => ?_)
                refine A_iconst d_195_99 (by decide) ?_
                refine A_isub d_195_100 ?_
                refine A_iload_n d_195_101 rfl ?_
                refine A_iconst d_195_102 (by decide) ?_
                refine A_isub d_195_103 ?_
                refine A_isub d_195_104 ?_
                refine A_iald rfl d_195_105 (fun v105 => ?_)
                refine A_goto (t := 111) d_195_106 (by decide) ?_
                exact A_ireti rfl d_195_111
            · refine A_aload_n d_195_74 rfl ?_
              refine A_getfI rfl d_195_75 kF_6_213 (by decide) (fun v75 => ?_)
              refine A_goto (t := 111) d_195_78 (by decide) ?_
              exact A_ireti rfl d_195_111
          · refine A_aload_n d_195_60 rfl ?_
            refine A_getfA rfl d_195_61 kF_6_44 (fun v61 => ?_)
            refine A_iload_n d_195_64 rfl ?_
            refine A_iald rfl d_195_65 (fun v65 => ?_)
            refine A_goto (t := 111) d_195_66 (by decide) ?_
            exact A_ireti rfl d_195_111
        · refine A_bipush d_195_52 (by decide) ?_
          exact A_ireti rfl d_195_54
      · refine A_iconst d_195_36 (by decide) ?_
        exact A_ireti rfl d_195_37
set_option maxRecDepth 20000 in
theorem q_Md_sureOnes_4 (a0 : Nat) (x1 : Int) (x2 : Int) (x3 : Int) (h : mH) : B_Md_sureOnes_4 a0 x1 x2 x3 h =
  (gfd 6 3 h a0).bind fun v6 =>
  if v6 ≤ x3 then
    (some (x2, h))
  else
    ((F_Md_isSure a0 x1 x3 h).bind fun q16 =>
    if q16.1 = 0 then
      (B_Md_sureOnes_29 a0 x1 x2 x3 0 x2 q16.2)
    else
      (B_Md_sureOnes_29 a0 x1 x2 x3 (ishl 1 x3) x2 q16.2)) := by
  unfold B_Md_sureOnes_4
  refine A_iload_n d_196_4 rfl ?_
  refine A_aload_n d_196_5 rfl ?_
  refine A_getfI rfl d_196_6 kF_6_93 (by decide) (fun v6 => ?_)
  refine A_ge (t := 37) d_196_9 (by decide) ?_ ?_
  · refine A_iload_n d_196_37 rfl ?_
    exact A_ireti rfl d_196_38
  · refine A_iload_n d_196_12 rfl ?_
    refine A_aload_n d_196_13 rfl ?_
    refine A_iload_n d_196_14 rfl ?_
    refine A_iload_n d_196_15 rfl ?_
    refine A_call (t := 192) (way := 0) rfl d_196_16 rfl (cl kI_6_279 rfl) rfl (by decide) rfl (fun q16 => ?_)
    refine A_eq0 (t := 28) d_196_19 (by decide) ?_ ?_
    · refine A_iconst d_196_28 (by decide) ?_
      exact rfl
    · refine A_iconst d_196_22 (by decide) ?_
      refine A_iload_n d_196_23 rfl ?_
      refine A_ishl d_196_24 ?_
      refine A_goto (t := 29) d_196_25 (by decide) ?_
      exact rfl
set_option maxRecDepth 20000 in
theorem q_Md_sureOnes_29 (a0 : Nat) (x1 : Int) (x2 : Int) (x3 : Int) (s0 : Int) (s1 : Int) (h : mH) : B_Md_sureOnes_29 a0 x1 x2 x3 s0 s1 h =
  B_Md_sureOnes_4 a0 x1 (ior s1 s0) (w32 (x3 + 1)) h := by
  unfold B_Md_sureOnes_29
  refine A_ior d_196_29 ?_
  refine A_istore_n d_196_30 rfl ?_
  refine A_iinc d_196_31 (by decide) rfl rfl ?_
  refine A_goto (t := 4) d_196_34 (by decide) ?_
  exact rfl
set_option maxRecDepth 20000 in
theorem q_Md_sureOnes (a0 : Nat) (x1 : Int) (h : mH) (ho : isO h a0 6 = true) : F_Md_sureOnes a0 x1 h =
  B_Md_sureOnes_4 a0 x1 0 0 h := by
  refine (congrArg asI (if_pos ho)).trans ?_
  show asI (Lim 196 0 [some (.inr (.inr a0)), some (.inl x1), none, none] [] h) = _
  refine A_iconst d_196_0 (by decide) ?_
  refine A_istore_n d_196_1 rfl ?_
  refine A_iconst d_196_2 (by decide) ?_
  refine A_istore_n d_196_3 rfl ?_
  exact rfl
set_option maxRecDepth 20000 in
theorem q_Md_sure (a0 : Nat) (h : mH) (ho : isO h a0 6 = true) : F_Md_sure a0 h =
  (F_Md_sureOnes a0 0 h).bind fun q2 =>
  some (q2.1, q2.2) := by
  refine (congrArg asI (if_pos ho)).trans ?_
  show asI (Lim 197 0 [some (.inr (.inr a0))] [] h) = _
  refine A_aload_n d_197_0 rfl ?_
  refine A_iconst d_197_1 (by decide) ?_
  refine A_call (t := 196) (way := 0) rfl d_197_2 rfl (cl kI_6_282 rfl) rfl (by decide) rfl (fun q2 => ?_)
  exact A_ireti rfl d_197_5
set_option maxRecDepth 20000 in
theorem q_Md_joins_14 (a0 : Nat) (x1 : Int) (x2 : Int) (x3 : Int) (h : mH) : B_Md_joins_14 a0 x1 x2 x3 h =
  (gfd 6 3 h a0).bind fun v16 =>
  if v16 ≤ x3 then
    (some (x2, h))
  else
    ((F_Md_stands a0 0 x1 h).bind fun h25 =>
    (F_Md_jumps a0 0 x3 h25).bind fun q32 =>
    if q32.1 ≠ 0 then
      (B_Md_joins_45 a0 x1 x2 x3 0 x2 q32.2)
    else
      (B_Md_joins_45 a0 x1 x2 x3 (ishl 1 x3) x2 q32.2)) := by
  unfold B_Md_joins_14
  refine A_iload_n d_198_14 rfl ?_
  refine A_aload_n d_198_15 rfl ?_
  refine A_getfI rfl d_198_16 kF_6_93 (by decide) (fun v16 => ?_)
  refine A_ge (t := 53) d_198_19 (by decide) ?_ ?_
  · refine A_iload_n d_198_53 rfl ?_
    exact A_ireti rfl d_198_54
  · refine A_aload_n d_198_22 rfl ?_
    refine A_iconst d_198_23 (by decide) ?_
    refine A_iload_n d_198_24 rfl ?_
    refine A_callU (t := 177) (way := 0) rfl d_198_25 rfl (cl kI_6_259 rfl) rfl rfl rfl (fun h25 => ?_)
    refine A_iload_n d_198_28 rfl ?_
    refine A_aload_n d_198_29 rfl ?_
    refine A_iconst d_198_30 (by decide) ?_
    refine A_iload_n d_198_31 rfl ?_
    refine A_call (t := 180) (way := 0) rfl d_198_32 rfl (cl kI_6_256 rfl) rfl (by decide) rfl (fun q32 => ?_)
    refine A_ne0 (t := 44) d_198_35 (by decide) ?_ ?_
    · refine A_iconst d_198_44 (by decide) ?_
      exact rfl
    · refine A_iconst d_198_38 (by decide) ?_
      refine A_iload_n d_198_39 rfl ?_
      refine A_ishl d_198_40 ?_
      refine A_goto (t := 45) d_198_41 (by decide) ?_
      exact rfl
set_option maxRecDepth 20000 in
theorem q_Md_joins_45 (a0 : Nat) (x1 : Int) (x2 : Int) (x3 : Int) (s0 : Int) (s1 : Int) (h : mH) : B_Md_joins_45 a0 x1 x2 x3 s0 s1 h =
  B_Md_joins_14 a0 x1 (ior s1 s0) (w32 (x3 + 1)) h := by
  unfold B_Md_joins_45
  refine A_ior d_198_45 ?_
  refine A_istore_n d_198_46 rfl ?_
  refine A_iinc d_198_47 (by decide) rfl rfl ?_
  refine A_goto (t := 14) d_198_50 (by decide) ?_
  exact rfl
set_option maxRecDepth 20000 in
theorem q_Md_joins (a0 : Nat) (x1 : Int) (h : mH) (ho : isO h a0 6 = true) : F_Md_joins a0 x1 h =
  (F_Md_isLabel a0 x1 h).bind fun q2 =>
  if q2.1 ≠ 0 then
    (B_Md_joins_14 a0 x1 0 0 q2.2)
  else
    (some ((-1), q2.2)) := by
  refine (congrArg asI (if_pos ho)).trans ?_
  show asI (Lim 198 0 [some (.inr (.inr a0)), some (.inl x1), none, none] [] h) = _
  refine A_aload_n d_198_0 rfl ?_
  refine A_iload_n d_198_1 rfl ?_
  refine A_call (t := 158) (way := 0) rfl d_198_2 rfl (cl kI_6_172 rfl) rfl (by decide) rfl (fun q2 => ?_)
  refine A_ne0 (t := 10) d_198_5 (by decide) ?_ ?_
  · refine A_iconst d_198_10 (by decide) ?_
    refine A_istore_n d_198_11 rfl ?_
    refine A_iconst d_198_12 (by decide) ?_
    refine A_istore_n d_198_13 rfl ?_
    exact rfl
  · refine A_iconst d_198_8 (by decide) ?_
    exact A_ireti rfl d_198_9
set_option maxRecDepth 20000 in
theorem q_Md_might_27 (a0 : Nat) (x1 : Int) (x2 : Int) (x3 : Int) (x4 : Int) (h : mH) : B_Md_might_27 a0 x1 x2 x3 x4 h =
  if 10 ≤ x4 then
    (some (x3, h))
  else
    ((F_Md_isType a0 x4 h).bind fun q37 =>
    if q37.1 = 0 then
      (B_Md_might_97 a0 x1 x2 x3 x4 q37.2)
    else
      ((F_Md_copies a0 0 1320 q37.2).bind fun h48 =>
      (gfd 6 14 h48 a0).bind fun v52 =>
      (ast h48 v52.toNat (w32 ((w32 (1320 + (w32 (30 * x1)))) + x2)) x4).bind fun h67 =>
      (F_Md_sureOnes a0 1320 h67).bind fun q73 =>
      (gfd 6 3 q73.2 a0).bind fun v78 =>
      if q73.1 ≠ w32 ((ishl 1 v78) - 1) then
        (B_Md_might_95 a0 x1 x2 x3 x4 0 x3 q73.2)
      else
        (B_Md_might_95 a0 x1 x2 x3 x4 (ishl 1 x4) x3 q73.2))) := by
  unfold B_Md_might_27
  refine A_iload d_199_27 rfl ?_
  refine A_bipush d_199_29 (by decide) ?_
  refine A_ge (t := 103) d_199_31 (by decide) ?_ ?_
  · refine A_iload_n d_199_103 rfl ?_
    exact A_ireti rfl d_199_104
  · refine A_aload_n d_199_34 rfl ?_
    refine A_iload d_199_35 rfl ?_
    refine A_call (t := 162) (way := 0) rfl d_199_37 rfl (cl kI_6_206 rfl) rfl (by decide) rfl (fun q37 => ?_)
    refine A_eq0 (t := 97) d_199_40 (by decide) ?_ ?_
    · exact rfl
    · refine A_aload_n d_199_43 rfl ?_
      refine A_iconst d_199_44 (by decide) ?_
      refine A_sipush d_199_45 (by decide) ?_
      refine A_callU (t := 166) (way := 0) rfl d_199_48 rfl (cl kI_6_196 rfl) rfl rfl rfl (fun h48 => ?_)
      refine A_aload_n d_199_51 rfl ?_
      refine A_getfA rfl d_199_52 kF_6_37 (fun v52 => ?_)
      refine A_sipush d_199_55 (by decide) ?_
      refine A_bipush d_199_58 (by decide) ?_
      refine A_iload_n d_199_60 rfl ?_
      refine A_imul d_199_61 ?_
      refine A_iadd d_199_62 ?_
      refine A_iload_n d_199_63 rfl ?_
      refine A_iadd d_199_64 ?_
      refine A_iload d_199_65 rfl ?_
      refine A_iast rfl d_199_67 (fun h67 => ?_)
      refine A_iload_n d_199_68 rfl ?_
      refine A_aload_n d_199_69 rfl ?_
      refine A_sipush d_199_70 (by decide) ?_
      refine A_call (t := 196) (way := 0) rfl d_199_73 rfl (cl kI_6_282 rfl) rfl (by decide) rfl (fun q73 => ?_)
      refine A_iconst d_199_76 (by decide) ?_
      refine A_aload_n d_199_77 rfl ?_
      refine A_getfI rfl d_199_78 kF_6_93 (by decide) (fun v78 => ?_)
      refine A_ishl d_199_81 ?_
      refine A_iconst d_199_82 (by decide) ?_
      refine A_isub d_199_83 ?_
      refine A_ne (t := 94) d_199_84 (by decide) ?_ ?_
      · refine A_iconst d_199_94 (by decide) ?_
        exact rfl
      · refine A_iconst d_199_87 (by decide) ?_
        refine A_iload d_199_88 rfl ?_
        refine A_ishl d_199_90 ?_
        refine A_goto (t := 95) d_199_91 (by decide) ?_
        exact rfl
set_option maxRecDepth 20000 in
theorem q_Md_might_95 (a0 : Nat) (x1 : Int) (x2 : Int) (x3 : Int) (x4 : Int) (s0 : Int) (s1 : Int) (h : mH) : B_Md_might_95 a0 x1 x2 x3 x4 s0 s1 h =
  B_Md_might_97 a0 x1 x2 (ior s1 s0) x4 h := by
  unfold B_Md_might_95
  refine A_ior d_199_95 ?_
  refine A_istore_n d_199_96 rfl ?_
  exact rfl
set_option maxRecDepth 20000 in
theorem q_Md_might_97 (a0 : Nat) (x1 : Int) (x2 : Int) (x3 : Int) (x4 : Int) (h : mH) : B_Md_might_97 a0 x1 x2 x3 x4 h =
  B_Md_might_27 a0 x1 x2 x3 (w32 (x4 + 1)) h := by
  unfold B_Md_might_97
  refine A_iinc d_199_97 (by decide) rfl rfl ?_
  refine A_goto (t := 27) d_199_100 (by decide) ?_
  exact rfl
set_option maxRecDepth 20000 in
theorem q_Md_might (a0 : Nat) (x1 : Int) (x2 : Int) (h : mH) (ho : isO h a0 6 = true) : F_Md_might a0 x1 x2 h =
  (F_Md_isLabel a0 x1 h).bind fun q2 =>
  if q2.1 = 0 then
    (some ((-1), q2.2))
  else
    ((F_Md_in x2 0 3 q2.2).bind fun q14 =>
    if q14.1 ≠ 0 then
      (B_Md_might_27 a0 x1 x2 0 0 q14.2)
    else
      (some ((-1), q14.2))) := by
  refine (congrArg asI (if_pos ho)).trans ?_
  show asI (Lim 199 0 [some (.inr (.inr a0)), some (.inl x1), some (.inl x2), none, none] [] h) = _
  refine A_aload_n d_199_0 rfl ?_
  refine A_iload_n d_199_1 rfl ?_
  refine A_call (t := 158) (way := 0) rfl d_199_2 rfl (cl kI_6_172 rfl) rfl (by decide) rfl (fun q2 => ?_)
  refine A_eq0 (t := 20) d_199_5 (by decide) ?_ ?_
  · refine A_iconst d_199_20 (by decide) ?_
    exact A_ireti rfl d_199_21
  · refine A_iload_n d_199_8 rfl ?_
    refine A_i2l d_199_9 ?_
    refine A_lconst d_199_10 (x := 0) rfl ?_
    refine A_ldc2 d_199_11 kJ_6_191 ?_
    refine A_call (t := 135) (way := 2) rfl d_199_14 rfl (cl kI_6_106 rfl) rfl (by decide) rfl (fun q14 => ?_)
    refine A_ne0 (t := 22) d_199_17 (by decide) ?_ ?_
    · refine A_iconst d_199_22 (by decide) ?_
      refine A_istore_n d_199_23 rfl ?_
      refine A_iconst d_199_24 (by decide) ?_
      refine A_istore d_199_25 rfl ?_
      exact rfl
    · refine A_iconst d_199_20 (by decide) ?_
      exact A_ireti rfl d_199_21
set_option maxRecDepth 20000 in
theorem q_Md_reached_4 (a0 : Nat) (x1 : Int) (x2 : Int) (o3 : Option mV) (o4 : Option mV) (o5 : Option mV) (h : mH) : B_Md_reached_4 a0 x1 x2 o3 o4 o5 h =
  if 4 ≤ x2 then
    (some (x1, h))
  else
    (B_Md_reached_11 a0 x1 x2 0 o4 o5 h) := by
  unfold B_Md_reached_4
  refine A_iload_n d_200_4 rfl ?_
  refine A_iconst d_200_5 (by decide) ?_
  refine A_ge (t := 99) d_200_6 (by decide) ?_ ?_
  · refine A_iload_n d_200_99 rfl ?_
    exact A_ireti rfl d_200_100
  · refine A_iconst d_200_9 (by decide) ?_
    refine A_istore_n d_200_10 rfl ?_
    exact rfl
set_option maxRecDepth 20000 in
theorem q_Md_reached_11 (a0 : Nat) (x1 : Int) (x2 : Int) (x3 : Int) (o4 : Option mV) (o5 : Option mV) (h : mH) : B_Md_reached_11 a0 x1 x2 x3 o4 o5 h =
  (gfd 6 3 h a0).bind fun v13 =>
  if v13 ≤ x3 then
    (B_Md_reached_4 a0 x1 (w32 (x2 + 1)) (some (.inl x3)) o4 o5 h)
  else
    (B_Md_reached_22 a0 x1 x2 x3 0 o5 h) := by
  unfold B_Md_reached_11
  refine A_iload_n d_200_11 rfl ?_
  refine A_aload_n d_200_12 rfl ?_
  refine A_getfI rfl d_200_13 kF_6_93 (by decide) (fun v13 => ?_)
  refine A_ge (t := 93) d_200_16 (by decide) ?_ ?_
  · refine A_iinc d_200_93 (by decide) rfl rfl ?_
    refine A_goto (t := 4) d_200_96 (by decide) ?_
    exact rfl
  · refine A_iconst d_200_19 (by decide) ?_
    refine A_istore d_200_20 rfl ?_
    exact rfl
set_option maxRecDepth 20000 in
theorem q_Md_reached_22 (a0 : Nat) (x1 : Int) (x2 : Int) (x3 : Int) (x4 : Int) (o5 : Option mV) (h : mH) : B_Md_reached_22 a0 x1 x2 x3 x4 o5 h =
  (F_Md_many a0 0 x3 h).bind fun q27 =>
  if q27.1 ≤ x4 then
    (B_Md_reached_87 a0 x1 x2 x3 x4 o5 q27.2)
  else
    ((F_Md_has x1 x3 q27.2).bind fun q35 =>
    if q35.1 = 0 then
      (B_Md_reached_87 a0 x1 x2 x3 x4 o5 q35.2)
    else
      ((F_Md_spot 0 x3 x4 q35.2).bind fun q45 =>
      (gfd 6 14 q45.2 a0).bind fun v52 =>
      (ald 10 q45.2 v52.toNat q45.1).bind fun v57 =>
      (gfd 6 14 q45.2 a0).bind fun v59 =>
      (ald 10 q45.2 v59.toNat (w32 (q45.1 + 1))).bind fun v66 =>
      (gfd 6 14 q45.2 a0).bind fun v68 =>
      (ald 10 q45.2 v68.toNat (w32 (q45.1 + 2))).bind fun v75 =>
      (F_Md_labelsIn v57 v66 v75 q45.2).bind fun q76 =>
      B_Md_reached_22 a0 (ior x1 q76.1) x2 x3 (w32 (x4 + 1)) (some (.inl q45.1)) q76.2)) := by
  unfold B_Md_reached_22
  refine A_iload d_200_22 rfl ?_
  refine A_aload_n d_200_24 rfl ?_
  refine A_iconst d_200_25 (by decide) ?_
  refine A_iload_n d_200_26 rfl ?_
  refine A_call (t := 160) (way := 0) rfl d_200_27 rfl (cl kI_6_176 rfl) rfl (by decide) rfl (fun q27 => ?_)
  refine A_ge (t := 87) d_200_30 (by decide) ?_ ?_
  · exact rfl
  · refine A_iload_n d_200_33 rfl ?_
    refine A_iload_n d_200_34 rfl ?_
    refine A_call (t := 136) (way := 2) rfl d_200_35 rfl (cl kI_6_237 rfl) rfl (by decide) rfl (fun q35 => ?_)
    refine A_eq0 (t := 87) d_200_38 (by decide) ?_ ?_
    · exact rfl
    · refine A_iconst d_200_41 (by decide) ?_
      refine A_iload_n d_200_42 rfl ?_
      refine A_iload d_200_43 rfl ?_
      refine A_call (t := 159) (way := 2) rfl d_200_45 rfl (cl kI_6_193 rfl) rfl (by decide) rfl (fun q45 => ?_)
      refine A_istore d_200_48 rfl ?_
      refine A_iload_n d_200_50 rfl ?_
      refine A_aload_n d_200_51 rfl ?_
      refine A_getfA rfl d_200_52 kF_6_37 (fun v52 => ?_)
      refine A_iload d_200_55 rfl ?_
      refine A_iald rfl d_200_57 (fun v57 => ?_)
      refine A_aload_n d_200_58 rfl ?_
      refine A_getfA rfl d_200_59 kF_6_37 (fun v59 => ?_)
      refine A_iload d_200_62 rfl ?_
      refine A_iconst d_200_64 (by decide) ?_
      refine A_iadd d_200_65 ?_
      refine A_iald rfl d_200_66 (fun v66 => ?_)
      refine A_aload_n d_200_67 rfl ?_
      refine A_getfA rfl d_200_68 kF_6_37 (fun v68 => ?_)
      refine A_iload d_200_71 rfl ?_
      refine A_iconst d_200_73 (by decide) ?_
      refine A_iadd d_200_74 ?_
      refine A_iald rfl d_200_75 (fun v75 => ?_)
      refine A_call (t := 153) (way := 2) rfl d_200_76 rfl (cl kI_6_151 rfl) rfl (by decide) rfl (fun q76 => ?_)
      refine A_ior d_200_79 ?_
      refine A_istore_n d_200_80 rfl ?_
      refine A_iinc d_200_81 (by decide) rfl rfl ?_
      refine A_goto (t := 22) d_200_84 (by decide) ?_
      exact rfl
set_option maxRecDepth 20000 in
theorem q_Md_reached_87 (a0 : Nat) (x1 : Int) (x2 : Int) (x3 : Int) (x4 : Int) (o5 : Option mV) (h : mH) : B_Md_reached_87 a0 x1 x2 x3 x4 o5 h =
  B_Md_reached_11 a0 x1 x2 (w32 (x3 + 1)) (some (.inl x4)) o5 h := by
  unfold B_Md_reached_87
  refine A_iinc d_200_87 (by decide) rfl rfl ?_
  refine A_goto (t := 11) d_200_90 (by decide) ?_
  exact rfl
set_option maxRecDepth 20000 in
theorem q_Md_reached (a0 : Nat) (h : mH) (ho : isO h a0 6 = true) : F_Md_reached a0 h =
  B_Md_reached_4 a0 1 0 none none none h := by
  refine (congrArg asI (if_pos ho)).trans ?_
  show asI (Lim 200 0 [some (.inr (.inr a0)), none, none, none, none, none] [] h) = _
  refine A_iconst d_200_0 (by decide) ?_
  refine A_istore_n d_200_1 rfl ?_
  refine A_iconst d_200_2 (by decide) ?_
  refine A_istore_n d_200_3 rfl ?_
  exact rfl
set_option maxRecDepth 20000 in
theorem q_Md_mends_63 (a0 : Nat) (x1 : Int) (x2 : Int) (x3 : Int) (x4 : Int) (x5 : Int) (x6 : Int) (o7 : Option mV) (o8 : Option mV) (o9 : Option mV) (o10 : Option mV) (o11 : Option mV) (h : mH) : B_Md_mends_63 a0 x1 x2 x3 x4 x5 x6 o7 o8 o9 o10 o11 h =
  if 896 ≤ x6 then
    (if x2 ≠ 0 then
      (some (x5, h))
    else
      (some (x4, h)))
  else
    ((gfd 6 0 h a0).bind fun v110 =>
    (gfd 6 3 h a0).bind fun v114 =>
    (F_Md_mayBe (w32 (Int.tdiv x6 64)) (Int.tmod (w32 (Int.tdiv x6 16)) 4) (Int.tmod (w32 (Int.tdiv x6 4)) 4) (Int.tmod x6 4) v110 v114 h).bind fun q117 =>
    if q117.1 = 0 then
      (B_Md_mends_203 a0 x1 x2 x3 x4 x5 x6 (w32 (Int.tdiv x6 64)) (Int.tmod (w32 (Int.tdiv x6 16)) 4) (Int.tmod (w32 (Int.tdiv x6 4)) 4) (Int.tmod x6 4) o11 q117.2)
    else
      (if w32 (Int.tdiv x6 64) ≠ 1 then
        (B_Md_mends_134 a0 x1 x2 x3 x4 x5 x6 (w32 (Int.tdiv x6 64)) (Int.tmod (w32 (Int.tdiv x6 16)) 4) (Int.tmod (w32 (Int.tdiv x6 4)) 4) (Int.tmod x6 4) o11 q117.2)
      else
        (if Int.tmod (w32 (Int.tdiv x6 4)) 4 ≠ 0 then
          (B_Md_mends_203 a0 x1 x2 x3 x4 x5 x6 (w32 (Int.tdiv x6 64)) (Int.tmod (w32 (Int.tdiv x6 16)) 4) (Int.tmod (w32 (Int.tdiv x6 4)) 4) (Int.tmod x6 4) o11 q117.2)
        else
          (B_Md_mends_134 a0 x1 x2 x3 x4 x5 x6 (w32 (Int.tdiv x6 64)) (Int.tmod (w32 (Int.tdiv x6 16)) 4) (Int.tmod (w32 (Int.tdiv x6 4)) 4) (Int.tmod x6 4) o11 q117.2)))) := by
  unfold B_Md_mends_63
  refine A_iload d_201_63 rfl ?_
  refine A_sipush d_201_65 (by decide) ?_
  refine A_ge (t := 209) d_201_68 (by decide) ?_ ?_
  · refine A_iload_n d_201_209 rfl ?_
    refine A_ne0 (t := 218) d_201_210 (by decide) ?_ ?_
    · refine A_iload d_201_218 rfl ?_
      exact A_ireti rfl d_201_220
    · refine A_iload d_201_213 rfl ?_
      refine A_goto (t := 220) d_201_215 (by decide) ?_
      exact A_ireti rfl d_201_220
  · refine A_iload d_201_71 rfl ?_
    refine A_bipush d_201_73 (by decide) ?_
    refine A_idiv d_201_75 (by decide) ?_
    refine A_istore d_201_76 rfl ?_
    refine A_iload d_201_78 rfl ?_
    refine A_bipush d_201_80 (by decide) ?_
    refine A_idiv d_201_82 (by decide) ?_
    refine A_iconst d_201_83 (by decide) ?_
    refine A_irem d_201_84 (by decide) ?_
    refine A_istore d_201_85 rfl ?_
    refine A_iload d_201_87 rfl ?_
    refine A_iconst d_201_89 (by decide) ?_
    refine A_idiv d_201_90 (by decide) ?_
    refine A_iconst d_201_91 (by decide) ?_
    refine A_irem d_201_92 (by decide) ?_
    refine A_istore d_201_93 rfl ?_
    refine A_iload d_201_95 rfl ?_
    refine A_iconst d_201_97 (by decide) ?_
    refine A_irem d_201_98 (by decide) ?_
    refine A_istore d_201_99 rfl ?_
    refine A_iload d_201_101 rfl ?_
    refine A_iload d_201_103 rfl ?_
    refine A_iload d_201_105 rfl ?_
    refine A_iload d_201_107 rfl ?_
    refine A_aload_n d_201_109 rfl ?_
    refine A_getfI rfl d_201_110 kF_6_90 (by decide) (fun v110 => ?_)
    refine A_aload_n d_201_113 rfl ?_
    refine A_getfI rfl d_201_114 kF_6_93 (by decide) (fun v114 => ?_)
    refine A_call (t := 154) (way := 2) rfl d_201_117 rfl (cl kI_6_147 rfl) rfl (by decide) rfl (fun q117 => ?_)
    refine A_eq0 (t := 203) d_201_120 (by decide) ?_ ?_
    · exact rfl
    · refine A_iload d_201_123 rfl ?_
      refine A_iconst d_201_125 (by decide) ?_
      refine A_ne (t := 134) d_201_126 (by decide) ?_ ?_
      · exact rfl
      · refine A_iload d_201_129 rfl ?_
        refine A_ne0 (t := 203) d_201_131 (by decide) ?_ ?_
        · exact rfl
        · exact rfl
set_option maxRecDepth 20000 in
theorem q_Md_mends_134 (a0 : Nat) (x1 : Int) (x2 : Int) (x3 : Int) (x4 : Int) (x5 : Int) (x6 : Int) (x7 : Int) (x8 : Int) (x9 : Int) (x10 : Int) (o11 : Option mV) (h : mH) : B_Md_mends_134 a0 x1 x2 x3 x4 x5 x6 x7 x8 x9 x10 o11 h =
  (F_Md_copies a0 0 1320 h).bind fun h139 =>
  (F_Md_writes a0 1320 x1 x3 x7 x8 x9 x10 h139).bind fun h156 =>
  (F_Md_isSure a0 1320 x1 h156).bind fun q164 =>
  if q164.1 = 0 then
    (B_Md_mends_181 a0 x1 x2 x3 x4 x5 x6 x7 x8 x9 x10 q164.1 0 x4 q164.2)
  else
    (B_Md_mends_181 a0 x1 x2 x3 x4 x5 x6 x7 x8 x9 x10 q164.1 1 x4 q164.2) := by
  unfold B_Md_mends_134
  refine A_aload_n d_201_134 rfl ?_
  refine A_iconst d_201_135 (by decide) ?_
  refine A_sipush d_201_136 (by decide) ?_
  refine A_callU (t := 166) (way := 0) rfl d_201_139 rfl (cl kI_6_196 rfl) rfl rfl rfl (fun h139 => ?_)
  refine A_aload_n d_201_142 rfl ?_
  refine A_sipush d_201_143 (by decide) ?_
  refine A_iload_n d_201_146 rfl ?_
  refine A_iload_n d_201_147 rfl ?_
  refine A_iload d_201_148 rfl ?_
  refine A_iload d_201_150 rfl ?_
  refine A_iload d_201_152 rfl ?_
  refine A_iload d_201_154 rfl ?_
  refine A_callU (t := 168) (way := 0) rfl d_201_156 rfl (cl kI_6_202 rfl) rfl rfl rfl (fun h156 => ?_)
  refine A_aload_n d_201_159 rfl ?_
  refine A_sipush d_201_160 (by decide) ?_
  refine A_iload_n d_201_163 rfl ?_
  refine A_call (t := 192) (way := 0) rfl d_201_164 rfl (cl kI_6_279 rfl) rfl (by decide) rfl (fun q164 => ?_)
  refine A_istore d_201_167 rfl ?_
  refine A_iload d_201_169 rfl ?_
  refine A_iload d_201_171 rfl ?_
  refine A_eq0 (t := 180) d_201_173 (by decide) ?_ ?_
  · refine A_iconst d_201_180 (by decide) ?_
    exact rfl
  · refine A_iconst d_201_176 (by decide) ?_
    refine A_goto (t := 181) d_201_177 (by decide) ?_
    exact rfl
set_option maxRecDepth 20000 in
theorem q_Md_mends_181 (a0 : Nat) (x1 : Int) (x2 : Int) (x3 : Int) (x4 : Int) (x5 : Int) (x6 : Int) (x7 : Int) (x8 : Int) (x9 : Int) (x10 : Int) (x11 : Int) (s0 : Int) (s1 : Int) (h : mH) : B_Md_mends_181 a0 x1 x2 x3 x4 x5 x6 x7 x8 x9 x10 x11 s0 s1 h =
  if x11 = 0 then
    (B_Md_mends_199 a0 x1 x2 x3 (w32 (s1 + s0)) x5 x6 x7 x8 x9 x10 x11 h)
  else
    (if 0 ≤ x5 then
      (B_Md_mends_199 a0 x1 x2 x3 (w32 (s1 + s0)) x5 x6 x7 x8 x9 x10 x11 h)
    else
      (B_Md_mends_201 a0 x1 x2 x3 (w32 (s1 + s0)) x5 x6 x7 x8 x9 x10 x11 x6 h)) := by
  unfold B_Md_mends_181
  refine A_iadd d_201_181 ?_
  refine A_istore d_201_182 rfl ?_
  refine A_iload d_201_184 rfl ?_
  refine A_eq0 (t := 199) d_201_186 (by decide) ?_ ?_
  · exact rfl
  · refine A_iload d_201_189 rfl ?_
    refine A_ge0 (t := 199) d_201_191 (by decide) ?_ ?_
    · exact rfl
    · refine A_iload d_201_194 rfl ?_
      refine A_goto (t := 201) d_201_196 (by decide) ?_
      exact rfl
set_option maxRecDepth 20000 in
theorem q_Md_mends_199 (a0 : Nat) (x1 : Int) (x2 : Int) (x3 : Int) (x4 : Int) (x5 : Int) (x6 : Int) (x7 : Int) (x8 : Int) (x9 : Int) (x10 : Int) (x11 : Int) (h : mH) : B_Md_mends_199 a0 x1 x2 x3 x4 x5 x6 x7 x8 x9 x10 x11 h =
  B_Md_mends_201 a0 x1 x2 x3 x4 x5 x6 x7 x8 x9 x10 x11 x5 h := by
  unfold B_Md_mends_199
  refine A_iload d_201_199 rfl ?_
  exact rfl
set_option maxRecDepth 20000 in
theorem q_Md_mends_201 (a0 : Nat) (x1 : Int) (x2 : Int) (x3 : Int) (x4 : Int) (x5 : Int) (x6 : Int) (x7 : Int) (x8 : Int) (x9 : Int) (x10 : Int) (x11 : Int) (s0 : Int) (h : mH) : B_Md_mends_201 a0 x1 x2 x3 x4 x5 x6 x7 x8 x9 x10 x11 s0 h =
  B_Md_mends_203 a0 x1 x2 x3 x4 s0 x6 x7 x8 x9 x10 (some (.inl x11)) h := by
  unfold B_Md_mends_201
  refine A_istore d_201_201 rfl ?_
  exact rfl
set_option maxRecDepth 20000 in
theorem q_Md_mends_203 (a0 : Nat) (x1 : Int) (x2 : Int) (x3 : Int) (x4 : Int) (x5 : Int) (x6 : Int) (x7 : Int) (x8 : Int) (x9 : Int) (x10 : Int) (o11 : Option mV) (h : mH) : B_Md_mends_203 a0 x1 x2 x3 x4 x5 x6 x7 x8 x9 x10 o11 h =
  B_Md_mends_63 a0 x1 x2 x3 x4 x5 (w32 (x6 + 1)) (some (.inl x7)) (some (.inl x8)) (some (.inl x9)) (some (.inl x10)) o11 h := by
  unfold B_Md_mends_203
  refine A_iinc d_201_203 (by decide) rfl rfl ?_
  refine A_goto (t := 63) d_201_206 (by decide) ?_
  exact rfl
set_option maxRecDepth 20000 in
theorem q_Md_mends (a0 : Nat) (x1 : Int) (x2 : Int) (h : mH) (ho : isO h a0 6 = true) : F_Md_mends a0 x1 x2 h =
  (F_Md_isLabel a0 x1 h).bind fun q2 =>
  if q2.1 = 0 then
    (some ((-1), q2.2))
  else
    ((F_Md_in x2 0 1 q2.2).bind fun q12 =>
    if q12.1 ≠ 0 then
      ((F_Md_checks a0 0 x1 9 q12.2).bind fun h25 =>
      (gfd 6 26 h25 a0).bind fun v29 =>
      (gfd 6 27 h25 a0).bind fun v34 =>
      if v34 = 0 then
        (some ((-2), h25))
      else
        ((F_Md_many a0 0 x1 h25).bind fun q44 =>
        if v29 ≠ q44.1 then
          (B_Md_mends_63 a0 x1 x2 v29 0 (-4) 0 none none none none none q44.2)
        else
          (some ((-2), q44.2))))
    else
      (some ((-1), q12.2))) := by
  refine (congrArg asI (if_pos ho)).trans ?_
  show asI (Lim 201 0 [some (.inr (.inr a0)), some (.inl x1), some (.inl x2), none, none, none, none, none, none, none, none, none] [] h) = _
  refine A_aload_n d_201_0 rfl ?_
  refine A_iload_n d_201_1 rfl ?_
  refine A_call (t := 158) (way := 0) rfl d_201_2 rfl (cl kI_6_172 rfl) rfl (by decide) rfl (fun q2 => ?_)
  refine A_eq0 (t := 18) d_201_5 (by decide) ?_ ?_
  · refine A_iconst d_201_18 (by decide) ?_
    exact A_ireti rfl d_201_19
  · refine A_iload_n d_201_8 rfl ?_
    refine A_i2l d_201_9 ?_
    refine A_lconst d_201_10 (x := 0) rfl ?_
    refine A_lconst d_201_11 (x := 1) rfl ?_
    refine A_call (t := 135) (way := 2) rfl d_201_12 rfl (cl kI_6_106 rfl) rfl (by decide) rfl (fun q12 => ?_)
    refine A_ne0 (t := 20) d_201_15 (by decide) ?_ ?_
    · refine A_aload_n d_201_20 rfl ?_
      refine A_iconst d_201_21 (by decide) ?_
      refine A_iload_n d_201_22 rfl ?_
      refine A_bipush d_201_23 (by decide) ?_
      refine A_callU (t := 191) (way := 0) rfl d_201_25 rfl (cl kI_6_274 rfl) rfl rfl rfl (fun h25 => ?_)
      refine A_aload_n d_201_28 rfl ?_
      refine A_getfI rfl d_201_29 kF_6_265 (by decide) (fun v29 => ?_)
      refine A_istore_n d_201_32 rfl ?_
      refine A_aload_n d_201_33 rfl ?_
      refine A_getfI rfl d_201_34 kF_6_262 (by decide) (fun v34 => ?_)
      refine A_eq0 (t := 50) d_201_37 (by decide) ?_ ?_
      · refine A_bipush d_201_50 (by decide) ?_
        exact A_ireti rfl d_201_52
      · refine A_iload_n d_201_40 rfl ?_
        refine A_aload_n d_201_41 rfl ?_
        refine A_iconst d_201_42 (by decide) ?_
        refine A_iload_n d_201_43 rfl ?_
        refine A_call (t := 160) (way := 0) rfl d_201_44 rfl (cl kI_6_176 rfl) rfl (by decide) rfl (fun q44 => ?_)
        refine A_ne (t := 53) d_201_47 (by decide) ?_ ?_
        · refine A_iconst d_201_53 (by decide) ?_
          refine A_istore d_201_54 rfl ?_
          refine A_bipush d_201_56 (by decide) ?_
          refine A_istore d_201_58 rfl ?_
          refine A_iconst d_201_60 (by decide) ?_
          refine A_istore d_201_61 rfl ?_
          exact rfl
        · refine A_bipush d_201_50 (by decide) ?_
          exact A_ireti rfl d_201_52
    · refine A_iconst d_201_18 (by decide) ?_
      exact A_ireti rfl d_201_19
set_option maxRecDepth 20000 in
theorem q_Md_begun (x0 : Int) (x1 : Int) (h : mH) : F_Md_begun x0 x1 h =
  if 2 ≤ x0 then
    (if 6 ≤ x0 then
      (some (w32 ((w32 (30000 + x0)) - 6), h))
    else
      (some (w32 ((w32 (20000 + x0)) - 2), h)))
  else
    (some (x1, h)) := by
  refine (congrArg asI (if_pos rfl)).trans ?_
  show asI (Lim 202 0 [some (.inl x0), some (.inl x1)] [] h) = _
  refine A_iload_n d_202_0 rfl ?_
  refine A_iconst d_202_1 (by decide) ?_
  refine A_ge (t := 9) d_202_2 (by decide) ?_ ?_
  · refine A_iload_n d_202_9 rfl ?_
    refine A_bipush d_202_10 (by decide) ?_
    refine A_ge (t := 25) d_202_12 (by decide) ?_ ?_
    · refine A_sipush d_202_25 (by decide) ?_
      refine A_iload_n d_202_28 rfl ?_
      refine A_iadd d_202_29 ?_
      refine A_bipush d_202_30 (by decide) ?_
      refine A_isub d_202_32 ?_
      exact A_ireti rfl d_202_33
    · refine A_sipush d_202_15 (by decide) ?_
      refine A_iload_n d_202_18 rfl ?_
      refine A_iadd d_202_19 ?_
      refine A_iconst d_202_20 (by decide) ?_
      refine A_isub d_202_21 ?_
      refine A_goto (t := 33) d_202_22 (by decide) ?_
      exact A_ireti rfl d_202_33
  · refine A_iload_n d_202_5 rfl ?_
    refine A_goto (t := 33) d_202_6 (by decide) ?_
    exact A_ireti rfl d_202_33
set_option maxRecDepth 20000 in
theorem q_Md_starts_2 (a0 : Nat) (x1 : Int) (x2 : Int) (o3 : Option mV) (h : mH) : B_Md_starts_2 a0 x1 x2 o3 h =
  (gfd 6 0 h a0).bind fun v4 =>
  if v4 ≤ x2 then
    ((pfd 6 33 h a0 0).bind fun h76 =>
    B_Md_starts_81 a0 x1 0 o3 h76)
  else
    ((gfd 6 30 h a0).bind fun v11 =>
    (ast h v11.toNat x2 x2).bind fun h16 =>
    B_Md_starts_19 a0 x1 x2 0 h16) := by
  unfold B_Md_starts_2
  refine A_iload_n d_203_2 rfl ?_
  refine A_aload_n d_203_3 rfl ?_
  refine A_getfI rfl d_203_4 kF_6_90 (by decide) (fun v4 => ?_)
  refine A_ge (t := 74) d_203_7 (by decide) ?_ ?_
  · refine A_aload_n d_203_74 rfl ?_
    refine A_iconst d_203_75 (by decide) ?_
    refine A_putfI rfl d_203_76 kF_6_288 rfl (fun h76 => ?_)
    refine A_iconst d_203_79 (by decide) ?_
    refine A_istore_n d_203_80 rfl ?_
    exact rfl
  · refine A_aload_n d_203_10 rfl ?_
    refine A_getfA rfl d_203_11 kF_6_56 (fun v11 => ?_)
    refine A_iload_n d_203_14 rfl ?_
    refine A_iload_n d_203_15 rfl ?_
    refine A_iast rfl d_203_16 (fun h16 => ?_)
    refine A_iconst d_203_17 (by decide) ?_
    refine A_istore_n d_203_18 rfl ?_
    exact rfl
set_option maxRecDepth 20000 in
theorem q_Md_starts_19 (a0 : Nat) (x1 : Int) (x2 : Int) (x3 : Int) (h : mH) : B_Md_starts_19 a0 x1 x2 x3 h =
  if 3 ≤ x3 then
    (B_Md_starts_2 a0 x1 (w32 (x2 + 1)) (some (.inl x3)) h)
  else
    ((gfd 6 29 h a0).bind fun v25 =>
    (gfd 6 1 h a0).bind fun v35 =>
    (ald 10 h v35.toNat x2).bind fun v39 =>
    if v39 ≤ x3 then
      (B_Md_starts_61 a0 x1 x2 x3 (-1) (w32 ((w32 (4 * x2)) + x3)) v25.toNat h)
    else
      ((gfd 6 2 h a0).bind fun v44 =>
      (ald 10 h v44.toNat (w32 ((w32 (3 * x2)) + x3))).bind fun v52 =>
      (F_Md_begun v52 x1 h).bind fun q54 =>
      B_Md_starts_61 a0 x1 x2 x3 q54.1 (w32 ((w32 (4 * x2)) + x3)) v25.toNat q54.2)) := by
  unfold B_Md_starts_19
  refine A_iload_n d_203_19 rfl ?_
  refine A_iconst d_203_20 (by decide) ?_
  refine A_ge (t := 68) d_203_21 (by decide) ?_ ?_
  · refine A_iinc d_203_68 (by decide) rfl rfl ?_
    refine A_goto (t := 2) d_203_71 (by decide) ?_
    exact rfl
  · refine A_aload_n d_203_24 rfl ?_
    refine A_getfA rfl d_203_25 kF_6_53 (fun v25 => ?_)
    refine A_iconst d_203_28 (by decide) ?_
    refine A_iload_n d_203_29 rfl ?_
    refine A_imul d_203_30 ?_
    refine A_iload_n d_203_31 rfl ?_
    refine A_iadd d_203_32 ?_
    refine A_iload_n d_203_33 rfl ?_
    refine A_aload_n d_203_34 rfl ?_
    refine A_getfA rfl d_203_35 kF_6_7 (fun v35 => ?_)
    refine A_iload_n d_203_38 rfl ?_
    refine A_iald rfl d_203_39 (fun v39 => ?_)
    refine A_ge (t := 60) d_203_40 (by decide) ?_ ?_
    · refine A_iconst d_203_60 (by decide) ?_
      exact rfl
    · refine A_aload_n d_203_43 rfl ?_
      refine A_getfA rfl d_203_44 kF_6_13 (fun v44 => ?_)
      refine A_iconst d_203_47 (by decide) ?_
      refine A_iload_n d_203_48 rfl ?_
      refine A_imul d_203_49 ?_
      refine A_iload_n d_203_50 rfl ?_
      refine A_iadd d_203_51 ?_
      refine A_iald rfl d_203_52 (fun v52 => ?_)
      refine A_iload_n d_203_53 rfl ?_
      refine A_call (t := 202) (way := 2) rfl d_203_54 rfl (cl kI_6_285 rfl) rfl (by decide) rfl (fun q54 => ?_)
      refine A_goto (t := 61) d_203_57 (by decide) ?_
      exact rfl
set_option maxRecDepth 20000 in
theorem q_Md_starts_61 (a0 : Nat) (x1 : Int) (x2 : Int) (x3 : Int) (s0 : Int) (s1 : Int) (sa2 : Nat) (h : mH) : B_Md_starts_61 a0 x1 x2 x3 s0 s1 sa2 h =
  (ast h sa2 s1 s0).bind fun h61 =>
  B_Md_starts_19 a0 x1 x2 (w32 (x3 + 1)) h61 := by
  unfold B_Md_starts_61
  refine A_iast rfl d_203_61 (fun h61 => ?_)
  refine A_iinc d_203_62 (by decide) rfl rfl ?_
  refine A_goto (t := 19) d_203_65 (by decide) ?_
  exact rfl
set_option maxRecDepth 20000 in
theorem q_Md_starts_81 (a0 : Nat) (x1 : Int) (x2 : Int) (o3 : Option mV) (h : mH) : B_Md_starts_81 a0 x1 x2 o3 h =
  if 4 ≤ x2 then
    ((gfd 6 4 h a0).bind fun v110 =>
    (ald 10 h v110.toNat 0).bind fun v114 =>
    (pfd 6 32 h a0 v114).bind fun h115 =>
    B_Md_starts_120 a0 x1 0 o3 h115)
  else
    ((gfd 6 28 h a0).bind fun v87 =>
    (gfd 6 14 h a0).bind fun v92 =>
    (ald 10 h v92.toNat x2).bind fun v96 =>
    (F_Md_begun v96 x1 h).bind fun q98 =>
    (ast q98.2 v87.toNat x2 q98.1).bind fun h101 =>
    B_Md_starts_81 a0 x1 (w32 (x2 + 1)) o3 h101) := by
  unfold B_Md_starts_81
  refine A_iload_n d_203_81 rfl ?_
  refine A_iconst d_203_82 (by decide) ?_
  refine A_ge (t := 108) d_203_83 (by decide) ?_ ?_
  · refine A_aload_n d_203_108 rfl ?_
    refine A_aload_n d_203_109 rfl ?_
    refine A_getfA rfl d_203_110 kF_6_16 (fun v110 => ?_)
    refine A_iconst d_203_113 (by decide) ?_
    refine A_iald rfl d_203_114 (fun v114 => ?_)
    refine A_putfI rfl d_203_115 kF_6_291 rfl (fun h115 => ?_)
    refine A_iconst d_203_118 (by decide) ?_
    refine A_istore_n d_203_119 rfl ?_
    exact rfl
  · refine A_aload_n d_203_86 rfl ?_
    refine A_getfA rfl d_203_87 kF_6_50 (fun v87 => ?_)
    refine A_iload_n d_203_90 rfl ?_
    refine A_aload_n d_203_91 rfl ?_
    refine A_getfA rfl d_203_92 kF_6_37 (fun v92 => ?_)
    refine A_iload_n d_203_95 rfl ?_
    refine A_iald rfl d_203_96 (fun v96 => ?_)
    refine A_iload_n d_203_97 rfl ?_
    refine A_call (t := 202) (way := 2) rfl d_203_98 rfl (cl kI_6_285 rfl) rfl (by decide) rfl (fun q98 => ?_)
    refine A_iast rfl d_203_101 (fun h101 => ?_)
    refine A_iinc d_203_102 (by decide) rfl rfl ?_
    refine A_goto (t := 81) d_203_105 (by decide) ?_
    exact rfl
set_option maxRecDepth 20000 in
theorem q_Md_starts_120 (a0 : Nat) (x1 : Int) (x2 : Int) (o3 : Option mV) (h : mH) : B_Md_starts_120 a0 x1 x2 o3 h =
  (gfd 6 32 h a0).bind fun v122 =>
  if v122 ≤ x2 then
    ((pfd 6 35 h a0 0).bind fun h159 =>
    (pfd 6 34 h159 a0 0).bind fun h164 =>
    (pfd 6 36 h164 a0 0).bind fun h169 =>
    some h169)
  else
    ((gfd 6 31 h a0).bind fun v129 =>
    (gfd 6 32 h a0).bind fun v133 =>
    (gfd 6 5 h a0).bind fun v141 =>
    (ald 10 h v141.toNat x2).bind fun v145 =>
    (F_Md_begun v145 x1 h).bind fun q147 =>
    (ast q147.2 v129.toNat (w32 ((w32 (v133 - 1)) - x2)) q147.1).bind fun h150 =>
    B_Md_starts_120 a0 x1 (w32 (x2 + 1)) o3 h150) := by
  unfold B_Md_starts_120
  refine A_iload_n d_203_120 rfl ?_
  refine A_aload_n d_203_121 rfl ?_
  refine A_getfI rfl d_203_122 kF_6_291 (by decide) (fun v122 => ?_)
  refine A_ge (t := 157) d_203_125 (by decide) ?_ ?_
  · refine A_aload_n d_203_157 rfl ?_
    refine A_iconst d_203_158 (by decide) ?_
    refine A_putfI rfl d_203_159 kF_6_294 rfl (fun h159 => ?_)
    refine A_aload_n d_203_162 rfl ?_
    refine A_iconst d_203_163 (by decide) ?_
    refine A_putfI rfl d_203_164 kF_6_297 rfl (fun h164 => ?_)
    refine A_aload_n d_203_167 rfl ?_
    refine A_iconst d_203_168 (by decide) ?_
    refine A_putfI rfl d_203_169 kF_6_300 rfl (fun h169 => ?_)
    exact A_ret rfl d_203_172
  · refine A_aload_n d_203_128 rfl ?_
    refine A_getfA rfl d_203_129 kF_6_59 (fun v129 => ?_)
    refine A_aload_n d_203_132 rfl ?_
    refine A_getfI rfl d_203_133 kF_6_291 (by decide) (fun v133 => ?_)
    refine A_iconst d_203_136 (by decide) ?_
    refine A_isub d_203_137 ?_
    refine A_iload_n d_203_138 rfl ?_
    refine A_isub d_203_139 ?_
    refine A_aload_n d_203_140 rfl ?_
    refine A_getfA rfl d_203_141 kF_6_19 (fun v141 => ?_)
    refine A_iload_n d_203_144 rfl ?_
    refine A_iald rfl d_203_145 (fun v145 => ?_)
    refine A_iload_n d_203_146 rfl ?_
    refine A_call (t := 202) (way := 2) rfl d_203_147 rfl (cl kI_6_285 rfl) rfl (by decide) rfl (fun q147 => ?_)
    refine A_iast rfl d_203_150 (fun h150 => ?_)
    refine A_iinc d_203_151 (by decide) rfl rfl ?_
    refine A_goto (t := 120) d_203_154 (by decide) ?_
    exact rfl
set_option maxRecDepth 20000 in
theorem q_Md_starts (a0 : Nat) (x1 : Int) (h : mH) (ho : isO h a0 6 = true) : F_Md_starts a0 x1 h =
  B_Md_starts_2 a0 x1 0 none h := by
  refine (congrArg asU (if_pos ho)).trans ?_
  show asU (Lim 203 0 [some (.inr (.inr a0)), some (.inl x1), none, none] [] h) = _
  refine A_iconst d_203_0 (by decide) ?_
  refine A_istore_n d_203_1 rfl ?_
  exact rfl
set_option maxRecDepth 20000 in
theorem q_Md_isWord (x0 : Int) (h : mH) : F_Md_isWord x0 h =
  if 20000 ≤ x0 then
    (some (0, h))
  else
    (some (1, h)) := by
  refine (congrArg asI (if_pos rfl)).trans ?_
  show asI (Lim 204 0 [some (.inl x0)] [] h) = _
  refine A_iload_n d_204_0 rfl ?_
  refine A_sipush d_204_1 (by decide) ?_
  refine A_ge (t := 11) d_204_4 (by decide) ?_ ?_
  · refine A_iconst d_204_11 (by decide) ?_
    exact A_iretz rfl d_204_12 (by decide)
  · refine A_iconst d_204_7 (by decide) ?_
    refine A_goto (t := 12) d_204_8 (by decide) ?_
    exact A_iretz rfl d_204_12 (by decide)
set_option maxRecDepth 20000 in
theorem q_Md_isHeap (x0 : Int) (h : mH) : F_Md_isHeap x0 h =
  (F_Md_in x0 20000 29999 h).bind fun q8 =>
  rz q8.1 q8.2 := by
  refine (congrArg asI (if_pos rfl)).trans ?_
  show asI (Lim 205 0 [some (.inl x0)] [] h) = _
  refine A_iload_n d_205_0 rfl ?_
  refine A_i2l d_205_1 ?_
  refine A_ldc2 d_205_2 kJ_6_303 ?_
  refine A_ldc2 d_205_5 kJ_6_305 ?_
  refine A_call (t := 135) (way := 2) rfl d_205_8 rfl (cl kI_6_106 rfl) rfl (by decide) rfl (fun q8 => ?_)
  exact A_iretb rfl d_205_11
set_option maxRecDepth 20000 in
theorem q_Md_goesTo (a0 : Nat) (x1 : Int) (h : mH) (ho : isO h a0 6 = true) : F_Md_goesTo a0 x1 h =
  (pfd 6 35 h a0 x1).bind fun h2 =>
  (pfd 6 34 h2 a0 0).bind fun h7 =>
  some h7 := by
  refine (congrArg asU (if_pos ho)).trans ?_
  show asU (Lim 206 0 [some (.inr (.inr a0)), some (.inl x1)] [] h) = _
  refine A_aload_n d_206_0 rfl ?_
  refine A_iload_n d_206_1 rfl ?_
  refine A_putfI rfl d_206_2 kF_6_294 rfl (fun h2 => ?_)
  refine A_aload_n d_206_5 rfl ?_
  refine A_iconst d_206_6 (by decide) ?_
  refine A_putfI rfl d_206_7 kF_6_297 rfl (fun h7 => ?_)
  exact A_ret rfl d_206_10
set_option maxRecDepth 20000 in
theorem q_Md_lands (a0 : Nat) (x1 : Int) (x2 : Int) (h : mH) (ho : isO h a0 6 = true) : F_Md_lands a0 x1 x2 h =
  (gfd 6 28 h a0).bind fun v1 =>
  (ast h v1.toNat x1 x2).bind fun h6 =>
  (gfd 6 34 h6 a0).bind fun v9 =>
  (pfd 6 34 h6 a0 (w32 (v9 + 1))).bind fun h14 =>
  some h14 := by
  refine (congrArg asU (if_pos ho)).trans ?_
  show asU (Lim 207 0 [some (.inr (.inr a0)), some (.inl x1), some (.inl x2)] [] h) = _
  refine A_aload_n d_207_0 rfl ?_
  refine A_getfA rfl d_207_1 kF_6_50 (fun v1 => ?_)
  refine A_iload_n d_207_4 rfl ?_
  refine A_iload_n d_207_5 rfl ?_
  refine A_iast rfl d_207_6 (fun h6 => ?_)
  refine A_aload_n d_207_7 rfl ?_
  refine A_dup d_207_8 rfl ?_
  refine A_getfI rfl d_207_9 kF_6_297 (by decide) (fun v9 => ?_)
  refine A_iconst d_207_12 (by decide) ?_
  refine A_iadd d_207_13 ?_
  refine A_putfI rfl d_207_14 kF_6_297 rfl (fun h14 => ?_)
  exact A_ret rfl d_207_17
set_option maxRecDepth 20000 in
theorem q_Md_makes_32 (a0 : Nat) (x1 : Int) (x2 : Int) (x3 : Int) (x4 : Int) (h : mH) : B_Md_makes_32 a0 x1 x2 x3 x4 h =
  if 3 ≤ x4 then
    ((gfd 6 33 h a0).bind fun v58 =>
    (pfd 6 33 h a0 (w32 (v58 + 1))).bind fun h63 =>
    (F_Md_lands a0 x1 (w32 (20000 + x3)) h63).bind fun h73 =>
    some h73)
  else
    ((gfd 6 29 h a0).bind fun v39 =>
    (ast h v39.toNat (w32 ((w32 (4 * x3)) + x4)) (-1)).bind fun h49 =>
    B_Md_makes_32 a0 x1 x2 x3 (w32 (x4 + 1)) h49) := by
  unfold B_Md_makes_32
  refine A_iload d_208_32 rfl ?_
  refine A_iconst d_208_34 (by decide) ?_
  refine A_ge (t := 56) d_208_35 (by decide) ?_ ?_
  · refine A_aload_n d_208_56 rfl ?_
    refine A_dup d_208_57 rfl ?_
    refine A_getfI rfl d_208_58 kF_6_288 (by decide) (fun v58 => ?_)
    refine A_iconst d_208_61 (by decide) ?_
    refine A_iadd d_208_62 ?_
    refine A_putfI rfl d_208_63 kF_6_288 rfl (fun h63 => ?_)
    refine A_aload_n d_208_66 rfl ?_
    refine A_iload_n d_208_67 rfl ?_
    refine A_sipush d_208_68 (by decide) ?_
    refine A_iload_n d_208_71 rfl ?_
    refine A_iadd d_208_72 ?_
    refine A_callU (t := 207) (way := 0) rfl d_208_73 rfl (cl kI_6_307 rfl) rfl rfl rfl (fun h73 => ?_)
    exact A_ret rfl d_208_76
  · refine A_aload_n d_208_38 rfl ?_
    refine A_getfA rfl d_208_39 kF_6_53 (fun v39 => ?_)
    refine A_iconst d_208_42 (by decide) ?_
    refine A_iload_n d_208_43 rfl ?_
    refine A_imul d_208_44 ?_
    refine A_iload d_208_45 rfl ?_
    refine A_iadd d_208_47 ?_
    refine A_iconst d_208_48 (by decide) ?_
    refine A_iast rfl d_208_49 (fun h49 => ?_)
    refine A_iinc d_208_50 (by decide) rfl rfl ?_
    refine A_goto (t := 32) d_208_53 (by decide) ?_
    exact rfl
set_option maxRecDepth 20000 in
theorem q_Md_makes (a0 : Nat) (x1 : Int) (x2 : Int) (h : mH) (ho : isO h a0 6 = true) : F_Md_makes a0 x1 x2 h =
  (gfd 6 33 h a0).bind fun v1 =>
  if v1 ≠ 8 then
    ((gfd 6 33 h a0).bind fun v17 =>
    (gfd 6 30 h a0).bind fun v23 =>
    (ast h v23.toNat (w32 (4 + v17)) x2).bind fun h28 =>
    B_Md_makes_32 a0 x1 x2 (w32 (4 + v17)) 0 h28)
  else
    ((pfd 6 36 h a0 3).bind fun h11 =>
    some h11) := by
  refine (congrArg asU (if_pos ho)).trans ?_
  show asU (Lim 208 0 [some (.inr (.inr a0)), some (.inl x1), some (.inl x2), none, none] [] h) = _
  refine A_aload_n d_208_0 rfl ?_
  refine A_getfI rfl d_208_1 kF_6_288 (by decide) (fun v1 => ?_)
  refine A_bipush d_208_4 (by decide) ?_
  refine A_ne (t := 15) d_208_6 (by decide) ?_ ?_
  · refine A_iconst d_208_15 (by decide) ?_
    refine A_aload_n d_208_16 rfl ?_
    refine A_getfI rfl d_208_17 kF_6_288 (by decide) (fun v17 => ?_)
    refine A_iadd d_208_20 ?_
    refine A_istore_n d_208_21 rfl ?_
    refine A_aload_n d_208_22 rfl ?_
    refine A_getfA rfl d_208_23 kF_6_56 (fun v23 => ?_)
    refine A_iload_n d_208_26 rfl ?_
    refine A_iload_n d_208_27 rfl ?_
    refine A_iast rfl d_208_28 (fun h28 => ?_)
    refine A_iconst d_208_29 (by decide) ?_
    refine A_istore d_208_30 rfl ?_
    exact rfl
  · refine A_aload_n d_208_9 rfl ?_
    refine A_iconst d_208_10 (by decide) ?_
    refine A_putfI rfl d_208_11 kF_6_300 rfl (fun h11 => ?_)
    exact A_ret rfl d_208_14
set_option maxRecDepth 20000 in
theorem q_Md_stores_40 (a0 : Nat) (x1 : Int) (x2 : Int) (x3 : Int) (x4 : Int) (h : mH) : B_Md_stores_40 a0 x1 x2 x3 x4 h =
  (pfd 6 36 h a0 2).bind fun h42 =>
  some h42 := by
  unfold B_Md_stores_40
  refine A_aload_n d_209_40 rfl ?_
  refine A_iconst d_209_41 (by decide) ?_
  refine A_putfI rfl d_209_42 kF_6_300 rfl (fun h42 => ?_)
  exact A_ret rfl d_209_45
set_option maxRecDepth 20000 in
theorem q_Md_stores (a0 : Nat) (x1 : Int) (x2 : Int) (x3 : Int) (h : mH) (ho : isO h a0 6 = true) : F_Md_stores a0 x1 x2 x3 h =
  (gfd 6 28 h a0).bind fun v1 =>
  (ald 10 h v1.toNat x1).bind fun v5 =>
  (gfd 6 28 h a0).bind fun v13 =>
  (ald 10 h v13.toNat x1).bind fun v17 =>
  (F_Md_isHeap v17 h).bind fun q18 =>
  if q18.1 = 0 then
    (B_Md_stores_40 a0 x1 x2 x3 (w32 (v5 - 20000)) q18.2)
  else
    ((gfd 6 1 q18.2 a0).bind fun v26 =>
    (gfd 6 30 q18.2 a0).bind fun v30 =>
    (ald 10 q18.2 v30.toNat (w32 (v5 - 20000))).bind fun v35 =>
    (ald 10 q18.2 v26.toNat v35).bind fun v36 =>
    if x2 < v36 then
      ((gfd 6 29 q18.2 a0).bind fun v47 =>
      (gfd 6 28 q18.2 a0).bind fun v57 =>
      (ald 10 q18.2 v57.toNat x3).bind fun v61 =>
      (ast q18.2 v47.toNat (w32 ((w32 (4 * (w32 (v5 - 20000)))) + x2)) v61).bind fun h62 =>
      (gfd 6 34 h62 a0).bind fun v65 =>
      (pfd 6 34 h62 a0 (w32 (v65 + 1))).bind fun h70 =>
      some h70)
    else
      (B_Md_stores_40 a0 x1 x2 x3 (w32 (v5 - 20000)) q18.2)) := by
  refine (congrArg asU (if_pos ho)).trans ?_
  show asU (Lim 209 0 [some (.inr (.inr a0)), some (.inl x1), some (.inl x2), some (.inl x3), none] [] h) = _
  refine A_aload_n d_209_0 rfl ?_
  refine A_getfA rfl d_209_1 kF_6_50 (fun v1 => ?_)
  refine A_iload_n d_209_4 rfl ?_
  refine A_iald rfl d_209_5 (fun v5 => ?_)
  refine A_sipush d_209_6 (by decide) ?_
  refine A_isub d_209_9 ?_
  refine A_istore d_209_10 rfl ?_
  refine A_aload_n d_209_12 rfl ?_
  refine A_getfA rfl d_209_13 kF_6_50 (fun v13 => ?_)
  refine A_iload_n d_209_16 rfl ?_
  refine A_iald rfl d_209_17 (fun v17 => ?_)
  refine A_call (t := 205) (way := 2) rfl d_209_18 rfl (cl kI_6_310 rfl) rfl (by decide) rfl (fun q18 => ?_)
  refine A_eq0 (t := 40) d_209_21 (by decide) ?_ ?_
  · exact rfl
  · refine A_iload_n d_209_24 rfl ?_
    refine A_aload_n d_209_25 rfl ?_
    refine A_getfA rfl d_209_26 kF_6_7 (fun v26 => ?_)
    refine A_aload_n d_209_29 rfl ?_
    refine A_getfA rfl d_209_30 kF_6_56 (fun v30 => ?_)
    refine A_iload d_209_33 rfl ?_
    refine A_iald rfl d_209_35 (fun v35 => ?_)
    refine A_iald rfl d_209_36 (fun v36 => ?_)
    refine A_lt (t := 46) d_209_37 (by decide) ?_ ?_
    · refine A_aload_n d_209_46 rfl ?_
      refine A_getfA rfl d_209_47 kF_6_53 (fun v47 => ?_)
      refine A_iconst d_209_50 (by decide) ?_
      refine A_iload d_209_51 rfl ?_
      refine A_imul d_209_53 ?_
      refine A_iload_n d_209_54 rfl ?_
      refine A_iadd d_209_55 ?_
      refine A_aload_n d_209_56 rfl ?_
      refine A_getfA rfl d_209_57 kF_6_50 (fun v57 => ?_)
      refine A_iload_n d_209_60 rfl ?_
      refine A_iald rfl d_209_61 (fun v61 => ?_)
      refine A_iast rfl d_209_62 (fun h62 => ?_)
      refine A_aload_n d_209_63 rfl ?_
      refine A_dup d_209_64 rfl ?_
      refine A_getfI rfl d_209_65 kF_6_297 (by decide) (fun v65 => ?_)
      refine A_iconst d_209_68 (by decide) ?_
      refine A_iadd d_209_69 ?_
      refine A_putfI rfl d_209_70 kF_6_297 rfl (fun h70 => ?_)
      exact A_ret rfl d_209_73
    · exact rfl
set_option maxRecDepth 20000 in
theorem q_Md_loads_54 (a0 : Nat) (x1 : Int) (x2 : Int) (x3 : Int) (x4 : Int) (h : mH) : B_Md_loads_54 a0 x1 x2 x3 x4 h =
  (pfd 6 36 h a0 2).bind fun h56 =>
  some h56 := by
  unfold B_Md_loads_54
  refine A_aload_n d_210_54 rfl ?_
  refine A_iconst d_210_55 (by decide) ?_
  refine A_putfI rfl d_210_56 kF_6_300 rfl (fun h56 => ?_)
  exact A_ret rfl d_210_59
set_option maxRecDepth 20000 in
theorem q_Md_loads (a0 : Nat) (x1 : Int) (x2 : Int) (x3 : Int) (h : mH) (ho : isO h a0 6 = true) : F_Md_loads a0 x1 x2 x3 h =
  (gfd 6 28 h a0).bind fun v1 =>
  (ald 10 h v1.toNat x2).bind fun v5 =>
  (gfd 6 28 h a0).bind fun v13 =>
  (ald 10 h v13.toNat x2).bind fun v17 =>
  (F_Md_isHeap v17 h).bind fun q18 =>
  if q18.1 = 0 then
    (B_Md_loads_54 a0 x1 x2 x3 (w32 (v5 - 20000)) q18.2)
  else
    ((gfd 6 1 q18.2 a0).bind fun v26 =>
    (gfd 6 30 q18.2 a0).bind fun v30 =>
    (ald 10 q18.2 v30.toNat (w32 (v5 - 20000))).bind fun v35 =>
    (ald 10 q18.2 v26.toNat v35).bind fun v36 =>
    if v36 ≤ x3 then
      (B_Md_loads_54 a0 x1 x2 x3 (w32 (v5 - 20000)) q18.2)
    else
      ((gfd 6 29 q18.2 a0).bind fun v41 =>
      (ald 10 q18.2 v41.toNat (w32 ((w32 (4 * (w32 (v5 - 20000)))) + x3))).bind fun v50 =>
      if 0 ≤ v50 then
        ((gfd 6 29 q18.2 a0).bind fun v63 =>
        (ald 10 q18.2 v63.toNat (w32 ((w32 (4 * (w32 (v5 - 20000)))) + x3))).bind fun v72 =>
        (F_Md_lands a0 x1 v72 q18.2).bind fun h73 =>
        some h73)
      else
        (B_Md_loads_54 a0 x1 x2 x3 (w32 (v5 - 20000)) q18.2))) := by
  refine (congrArg asU (if_pos ho)).trans ?_
  show asU (Lim 210 0 [some (.inr (.inr a0)), some (.inl x1), some (.inl x2), some (.inl x3), none] [] h) = _
  refine A_aload_n d_210_0 rfl ?_
  refine A_getfA rfl d_210_1 kF_6_50 (fun v1 => ?_)
  refine A_iload_n d_210_4 rfl ?_
  refine A_iald rfl d_210_5 (fun v5 => ?_)
  refine A_sipush d_210_6 (by decide) ?_
  refine A_isub d_210_9 ?_
  refine A_istore d_210_10 rfl ?_
  refine A_aload_n d_210_12 rfl ?_
  refine A_getfA rfl d_210_13 kF_6_50 (fun v13 => ?_)
  refine A_iload_n d_210_16 rfl ?_
  refine A_iald rfl d_210_17 (fun v17 => ?_)
  refine A_call (t := 205) (way := 2) rfl d_210_18 rfl (cl kI_6_310 rfl) rfl (by decide) rfl (fun q18 => ?_)
  refine A_eq0 (t := 54) d_210_21 (by decide) ?_ ?_
  · exact rfl
  · refine A_iload_n d_210_24 rfl ?_
    refine A_aload_n d_210_25 rfl ?_
    refine A_getfA rfl d_210_26 kF_6_7 (fun v26 => ?_)
    refine A_aload_n d_210_29 rfl ?_
    refine A_getfA rfl d_210_30 kF_6_56 (fun v30 => ?_)
    refine A_iload d_210_33 rfl ?_
    refine A_iald rfl d_210_35 (fun v35 => ?_)
    refine A_iald rfl d_210_36 (fun v36 => ?_)
    refine A_ge (t := 54) d_210_37 (by decide) ?_ ?_
    · exact rfl
    · refine A_aload_n d_210_40 rfl ?_
      refine A_getfA rfl d_210_41 kF_6_53 (fun v41 => ?_)
      refine A_iconst d_210_44 (by decide) ?_
      refine A_iload d_210_45 rfl ?_
      refine A_imul d_210_47 ?_
      refine A_iload_n d_210_48 rfl ?_
      refine A_iadd d_210_49 ?_
      refine A_iald rfl d_210_50 (fun v50 => ?_)
      refine A_ge0 (t := 60) d_210_51 (by decide) ?_ ?_
      · refine A_aload_n d_210_60 rfl ?_
        refine A_iload_n d_210_61 rfl ?_
        refine A_aload_n d_210_62 rfl ?_
        refine A_getfA rfl d_210_63 kF_6_53 (fun v63 => ?_)
        refine A_iconst d_210_66 (by decide) ?_
        refine A_iload d_210_67 rfl ?_
        refine A_imul d_210_69 ?_
        refine A_iload_n d_210_70 rfl ?_
        refine A_iadd d_210_71 ?_
        refine A_iald rfl d_210_72 (fun v72 => ?_)
        refine A_callU (t := 207) (way := 0) rfl d_210_73 rfl (cl kI_6_307 rfl) rfl rfl rfl (fun h73 => ?_)
        exact A_ret rfl d_210_76
      · exact rfl
set_option maxRecDepth 20000 in
theorem q_Md_piles (a0 : Nat) (x1 : Int) (h : mH) (ho : isO h a0 6 = true) : F_Md_piles a0 x1 h =
  (gfd 6 32 h a0).bind fun v1 =>
  if v1 ≠ 16 then
    ((gfd 6 31 h a0).bind fun v16 =>
    (gfd 6 32 h a0).bind fun v20 =>
    (gfd 6 28 h a0).bind fun v24 =>
    (ald 10 h v24.toNat x1).bind fun v28 =>
    (ast h v16.toNat v20 v28).bind fun h29 =>
    (gfd 6 32 h29 a0).bind fun v32 =>
    (pfd 6 32 h29 a0 (w32 (v32 + 1))).bind fun h37 =>
    (gfd 6 34 h37 a0).bind fun v42 =>
    (pfd 6 34 h37 a0 (w32 (v42 + 1))).bind fun h47 =>
    some h47)
  else
    ((pfd 6 36 h a0 3).bind fun h11 =>
    some h11) := by
  refine (congrArg asU (if_pos ho)).trans ?_
  show asU (Lim 211 0 [some (.inr (.inr a0)), some (.inl x1)] [] h) = _
  refine A_aload_n d_211_0 rfl ?_
  refine A_getfI rfl d_211_1 kF_6_291 (by decide) (fun v1 => ?_)
  refine A_bipush d_211_4 (by decide) ?_
  refine A_ne (t := 15) d_211_6 (by decide) ?_ ?_
  · refine A_aload_n d_211_15 rfl ?_
    refine A_getfA rfl d_211_16 kF_6_59 (fun v16 => ?_)
    refine A_aload_n d_211_19 rfl ?_
    refine A_getfI rfl d_211_20 kF_6_291 (by decide) (fun v20 => ?_)
    refine A_aload_n d_211_23 rfl ?_
    refine A_getfA rfl d_211_24 kF_6_50 (fun v24 => ?_)
    refine A_iload_n d_211_27 rfl ?_
    refine A_iald rfl d_211_28 (fun v28 => ?_)
    refine A_iast rfl d_211_29 (fun h29 => ?_)
    refine A_aload_n d_211_30 rfl ?_
    refine A_dup d_211_31 rfl ?_
    refine A_getfI rfl d_211_32 kF_6_291 (by decide) (fun v32 => ?_)
    refine A_iconst d_211_35 (by decide) ?_
    refine A_iadd d_211_36 ?_
    refine A_putfI rfl d_211_37 kF_6_291 rfl (fun h37 => ?_)
    refine A_aload_n d_211_40 rfl ?_
    refine A_dup d_211_41 rfl ?_
    refine A_getfI rfl d_211_42 kF_6_297 (by decide) (fun v42 => ?_)
    refine A_iconst d_211_45 (by decide) ?_
    refine A_iadd d_211_46 ?_
    refine A_putfI rfl d_211_47 kF_6_297 rfl (fun h47 => ?_)
    exact A_ret rfl d_211_50
  · refine A_aload_n d_211_9 rfl ?_
    refine A_iconst d_211_10 (by decide) ?_
    refine A_putfI rfl d_211_11 kF_6_300 rfl (fun h11 => ?_)
    exact A_ret rfl d_211_14
set_option maxRecDepth 20000 in
theorem q_Md_unpiles (a0 : Nat) (x1 : Int) (h : mH) (ho : isO h a0 6 = true) : F_Md_unpiles a0 x1 h =
  (gfd 6 32 h a0).bind fun v1 =>
  if v1 ≠ 0 then
    ((gfd 6 32 h a0).bind fun v15 =>
    (pfd 6 32 h a0 (w32 (v15 - 1))).bind fun h20 =>
    (gfd 6 31 h20 a0).bind fun v26 =>
    (gfd 6 32 h20 a0).bind fun v30 =>
    (ald 10 h20 v26.toNat v30).bind fun v33 =>
    (F_Md_lands a0 x1 v33 h20).bind fun h34 =>
    some h34)
  else
    ((pfd 6 36 h a0 2).bind fun h9 =>
    some h9) := by
  refine (congrArg asU (if_pos ho)).trans ?_
  show asU (Lim 212 0 [some (.inr (.inr a0)), some (.inl x1)] [] h) = _
  refine A_aload_n d_212_0 rfl ?_
  refine A_getfI rfl d_212_1 kF_6_291 (by decide) (fun v1 => ?_)
  refine A_ne0 (t := 13) d_212_4 (by decide) ?_ ?_
  · refine A_aload_n d_212_13 rfl ?_
    refine A_dup d_212_14 rfl ?_
    refine A_getfI rfl d_212_15 kF_6_291 (by decide) (fun v15 => ?_)
    refine A_iconst d_212_18 (by decide) ?_
    refine A_isub d_212_19 ?_
    refine A_putfI rfl d_212_20 kF_6_291 rfl (fun h20 => ?_)
    refine A_aload_n d_212_23 rfl ?_
    refine A_iload_n d_212_24 rfl ?_
    refine A_aload_n d_212_25 rfl ?_
    refine A_getfA rfl d_212_26 kF_6_59 (fun v26 => ?_)
    refine A_aload_n d_212_29 rfl ?_
    refine A_getfI rfl d_212_30 kF_6_291 (by decide) (fun v30 => ?_)
    refine A_iald rfl d_212_33 (fun v33 => ?_)
    refine A_callU (t := 207) (way := 0) rfl d_212_34 rfl (cl kI_6_307 rfl) rfl rfl rfl (fun h34 => ?_)
    exact A_ret rfl d_212_37
  · refine A_aload_n d_212_7 rfl ?_
    refine A_iconst d_212_8 (by decide) ?_
    refine A_putfI rfl d_212_9 kF_6_300 rfl (fun h9 => ?_)
    exact A_ret rfl d_212_12
set_option maxRecDepth 20000 in
theorem q_Md_adds_24 (a0 : Nat) (x1 : Int) (x2 : Int) (h : mH) : B_Md_adds_24 a0 x1 x2 h =
  (pfd 6 36 h a0 2).bind fun h26 =>
  some h26 := by
  unfold B_Md_adds_24
  refine A_aload_n d_213_24 rfl ?_
  refine A_iconst d_213_25 (by decide) ?_
  refine A_putfI rfl d_213_26 kF_6_300 rfl (fun h26 => ?_)
  exact A_ret rfl d_213_29
set_option maxRecDepth 20000 in
theorem q_Md_adds (a0 : Nat) (x1 : Int) (x2 : Int) (h : mH) (ho : isO h a0 6 = true) : F_Md_adds a0 x1 x2 h =
  (gfd 6 28 h a0).bind fun v1 =>
  (ald 10 h v1.toNat x1).bind fun v5 =>
  (F_Md_isWord v5 h).bind fun q6 =>
  if q6.1 = 0 then
    (B_Md_adds_24 a0 x1 x2 q6.2)
  else
    ((gfd 6 28 q6.2 a0).bind fun v13 =>
    (ald 10 q6.2 v13.toNat x2).bind fun v17 =>
    (F_Md_isWord v17 q6.2).bind fun q18 =>
    if q18.1 ≠ 0 then
      ((gfd 6 28 q18.2 a0).bind fun v33 =>
      (ald 10 q18.2 v33.toNat x1).bind fun v37 =>
      (gfd 6 28 q18.2 a0).bind fun v39 =>
      (ald 10 q18.2 v39.toNat x2).bind fun v43 =>
      (F_Md_lands a0 x1 (Int.tmod (w32 (v37 + v43)) 10000) q18.2).bind fun h49 =>
      some h49)
    else
      (B_Md_adds_24 a0 x1 x2 q18.2)) := by
  refine (congrArg asU (if_pos ho)).trans ?_
  show asU (Lim 213 0 [some (.inr (.inr a0)), some (.inl x1), some (.inl x2)] [] h) = _
  refine A_aload_n d_213_0 rfl ?_
  refine A_getfA rfl d_213_1 kF_6_50 (fun v1 => ?_)
  refine A_iload_n d_213_4 rfl ?_
  refine A_iald rfl d_213_5 (fun v5 => ?_)
  refine A_call (t := 204) (way := 2) rfl d_213_6 rfl (cl kI_6_313 rfl) rfl (by decide) rfl (fun q6 => ?_)
  refine A_eq0 (t := 24) d_213_9 (by decide) ?_ ?_
  · exact rfl
  · refine A_aload_n d_213_12 rfl ?_
    refine A_getfA rfl d_213_13 kF_6_50 (fun v13 => ?_)
    refine A_iload_n d_213_16 rfl ?_
    refine A_iald rfl d_213_17 (fun v17 => ?_)
    refine A_call (t := 204) (way := 2) rfl d_213_18 rfl (cl kI_6_313 rfl) rfl (by decide) rfl (fun q18 => ?_)
    refine A_ne0 (t := 30) d_213_21 (by decide) ?_ ?_
    · refine A_aload_n d_213_30 rfl ?_
      refine A_iload_n d_213_31 rfl ?_
      refine A_aload_n d_213_32 rfl ?_
      refine A_getfA rfl d_213_33 kF_6_50 (fun v33 => ?_)
      refine A_iload_n d_213_36 rfl ?_
      refine A_iald rfl d_213_37 (fun v37 => ?_)
      refine A_aload_n d_213_38 rfl ?_
      refine A_getfA rfl d_213_39 kF_6_50 (fun v39 => ?_)
      refine A_iload_n d_213_42 rfl ?_
      refine A_iald rfl d_213_43 (fun v43 => ?_)
      refine A_iadd d_213_44 ?_
      refine A_sipush d_213_45 (by decide) ?_
      refine A_irem d_213_48 (by decide) ?_
      refine A_callU (t := 207) (way := 0) rfl d_213_49 rfl (cl kI_6_307 rfl) rfl rfl rfl (fun h49 => ?_)
      exact A_ret rfl d_213_52
    · exact rfl
set_option maxRecDepth 20000 in
theorem q_Md_parts (a0 : Nat) (x1 : Int) (x2 : Int) (h : mH) (ho : isO h a0 6 = true) : F_Md_parts a0 x1 x2 h =
  (gfd 6 28 h a0).bind fun v1 =>
  (ald 10 h v1.toNat x1).bind fun v5 =>
  (F_Md_isWord v5 h).bind fun q6 =>
  if q6.1 ≠ 0 then
    ((gfd 6 28 q6.2 a0).bind fun v21 =>
    (ald 10 q6.2 v21.toNat x1).bind fun v25 =>
    if v25 = 0 then
      ((gfd 6 34 q6.2 a0).bind fun v39 =>
      (pfd 6 34 q6.2 a0 (w32 (v39 + 1))).bind fun h44 =>
      some h44)
    else
      ((F_Md_goesTo a0 x2 q6.2).bind fun h31 =>
      some h31))
  else
    ((pfd 6 36 q6.2 a0 2).bind fun h14 =>
    some h14) := by
  refine (congrArg asU (if_pos ho)).trans ?_
  show asU (Lim 214 0 [some (.inr (.inr a0)), some (.inl x1), some (.inl x2)] [] h) = _
  refine A_aload_n d_214_0 rfl ?_
  refine A_getfA rfl d_214_1 kF_6_50 (fun v1 => ?_)
  refine A_iload_n d_214_4 rfl ?_
  refine A_iald rfl d_214_5 (fun v5 => ?_)
  refine A_call (t := 204) (way := 2) rfl d_214_6 rfl (cl kI_6_313 rfl) rfl (by decide) rfl (fun q6 => ?_)
  refine A_ne0 (t := 20) d_214_9 (by decide) ?_ ?_
  · refine A_aload_n d_214_20 rfl ?_
    refine A_getfA rfl d_214_21 kF_6_50 (fun v21 => ?_)
    refine A_iload_n d_214_24 rfl ?_
    refine A_iald rfl d_214_25 (fun v25 => ?_)
    refine A_eq0 (t := 37) d_214_26 (by decide) ?_ ?_
    · refine A_aload_n d_214_37 rfl ?_
      refine A_dup d_214_38 rfl ?_
      refine A_getfI rfl d_214_39 kF_6_297 (by decide) (fun v39 => ?_)
      refine A_iconst d_214_42 (by decide) ?_
      refine A_iadd d_214_43 ?_
      refine A_putfI rfl d_214_44 kF_6_297 rfl (fun h44 => ?_)
      exact A_ret rfl d_214_47
    · refine A_aload_n d_214_29 rfl ?_
      refine A_iload_n d_214_30 rfl ?_
      refine A_callU (t := 206) (way := 0) rfl d_214_31 rfl (cl kI_6_316 rfl) rfl rfl rfl (fun h31 => ?_)
      refine A_goto (t := 47) d_214_34 (by decide) ?_
      exact A_ret rfl d_214_47
  · refine A_aload_n d_214_12 rfl ?_
    refine A_iconst d_214_13 (by decide) ?_
    refine A_putfI rfl d_214_14 kF_6_300 rfl (fun h14 => ?_)
    refine A_goto (t := 47) d_214_17 (by decide) ?_
    exact A_ret rfl d_214_47
set_option maxRecDepth 20000 in
theorem q_Md_backs (a0 : Nat) (x1 : Int) (h : mH) (ho : isO h a0 6 = true) : F_Md_backs a0 x1 h =
  (gfd 6 28 h a0).bind fun v1 =>
  (ald 10 h v1.toNat x1).bind fun v5 =>
  if 30000 ≤ v5 then
    ((gfd 6 28 h a0).bind fun v22 =>
    (ald 10 h v22.toNat x1).bind fun v26 =>
    (F_Md_goesTo a0 (w32 (v26 - 30000)) h).bind fun h31 =>
    some h31)
  else
    ((pfd 6 36 h a0 2).bind fun h14 =>
    some h14) := by
  refine (congrArg asU (if_pos ho)).trans ?_
  show asU (Lim 215 0 [some (.inr (.inr a0)), some (.inl x1)] [] h) = _
  refine A_aload_n d_215_0 rfl ?_
  refine A_getfA rfl d_215_1 kF_6_50 (fun v1 => ?_)
  refine A_iload_n d_215_4 rfl ?_
  refine A_iald rfl d_215_5 (fun v5 => ?_)
  refine A_sipush d_215_6 (by decide) ?_
  refine A_ge (t := 20) d_215_9 (by decide) ?_ ?_
  · refine A_aload_n d_215_20 rfl ?_
    refine A_aload_n d_215_21 rfl ?_
    refine A_getfA rfl d_215_22 kF_6_50 (fun v22 => ?_)
    refine A_iload_n d_215_25 rfl ?_
    refine A_iald rfl d_215_26 (fun v26 => ?_)
    refine A_sipush d_215_27 (by decide) ?_
    refine A_isub d_215_30 ?_
    refine A_callU (t := 206) (way := 0) rfl d_215_31 rfl (cl kI_6_316 rfl) rfl rfl rfl (fun h31 => ?_)
    exact A_ret rfl d_215_34
  · refine A_aload_n d_215_12 rfl ?_
    refine A_iconst d_215_13 (by decide) ?_
    refine A_putfI rfl d_215_14 kF_6_300 rfl (fun h14 => ?_)
    refine A_goto (t := 34) d_215_17 (by decide) ?_
    exact A_ret rfl d_215_34
set_option maxRecDepth 20000 in
theorem q_Md_step_290 (a0 : Nat) (x1 : Int) (x2 : Int) (x3 : Int) (x4 : Int) (s0 : Int) (sa1 : Nat) (h : mH) : B_Md_step_290 a0 x1 x2 x3 x4 s0 sa1 h =
  (pfd 6 36 h sa1 s0).bind fun h290 =>
  some h290 := by
  unfold B_Md_step_290
  refine A_putfI rfl d_216_290 kF_6_300 rfl (fun h290 => ?_)
  exact A_ret rfl d_216_293
set_option maxRecDepth 20000 in
theorem q_Md_step (a0 : Nat) (h : mH) (ho : isO h a0 6 = true) : F_Md_step a0 h =
  (gfd 6 34 h a0).bind fun v1 =>
  (gfd 6 35 h a0).bind fun v7 =>
  (F_Md_many a0 0 v7 h).bind fun q10 =>
  if v1 ≠ q10.1 then
    ((gfd 6 35 q10.2 a0).bind fun v24 =>
    (gfd 6 34 q10.2 a0).bind fun v28 =>
    (F_Md_spot 0 v24 v28 q10.2).bind fun q31 =>
    (gfd 6 14 q31.2 a0).bind fun v36 =>
    (ald 10 q31.2 v36.toNat (w32 (q31.1 + 1))).bind fun v42 =>
    (gfd 6 14 q31.2 a0).bind fun v45 =>
    (ald 10 q31.2 v45.toNat (w32 (q31.1 + 2))).bind fun v51 =>
    (gfd 6 14 q31.2 a0).bind fun v54 =>
    (ald 10 q31.2 v54.toNat (w32 (q31.1 + 3))).bind fun v60 =>
    (gfd 6 14 q31.2 a0).bind fun v64 =>
    (ald 10 q31.2 v64.toNat q31.1).bind fun v68 =>
    if v68 = 0 then
      ((gfd 6 28 q31.2 a0).bind fun v139 =>
      (ald 10 q31.2 v139.toNat v51).bind fun v143 =>
      (F_Md_lands a0 v42 v143 q31.2).bind fun h144 =>
      some h144)
    else if v68 = 1 then
      ((F_Md_lands a0 v42 v51 q31.2).bind fun h153 =>
      some h153)
    else if v68 = 2 then
      ((F_Md_adds a0 v42 v51 q31.2).bind fun h162 =>
      some h162)
    else if v68 = 3 then
      ((F_Md_makes a0 v42 v51 q31.2).bind fun h171 =>
      some h171)
    else if v68 = 4 then
      ((F_Md_stores a0 v42 v51 v60 q31.2).bind fun h182 =>
      some h182)
    else if v68 = 5 then
      ((F_Md_loads a0 v42 v51 v60 q31.2).bind fun h193 =>
      some h193)
    else if v68 = 6 then
      ((F_Md_piles a0 v42 q31.2).bind fun h201 =>
      some h201)
    else if v68 = 7 then
      ((F_Md_unpiles a0 v42 q31.2).bind fun h209 =>
      some h209)
    else if v68 = 8 then
      ((F_Md_lands a0 v42 (w32 (30000 + v51)) q31.2).bind fun h222 =>
      some h222)
    else if v68 = 9 then
      ((F_Md_goesTo a0 v42 q31.2).bind fun h230 =>
      some h230)
    else if v68 = 10 then
      ((F_Md_parts a0 v42 v51 q31.2).bind fun h239 =>
      some h239)
    else if v68 = 11 then
      ((gfd 6 28 q31.2 a0).bind fun v246 =>
      (ast q31.2 v246.toNat 3 (w32 (30000 + v51))).bind fun h255 =>
      (F_Md_goesTo a0 v42 h255).bind fun h258 =>
      some h258)
    else if v68 = 12 then
      ((F_Md_backs a0 v42 q31.2).bind fun h266 =>
      some h266)
    else ((gfd 6 28 q31.2 a0).bind fun v274 =>
      (ald 10 q31.2 v274.toNat 0).bind fun v278 =>
      (F_Md_isWord v278 q31.2).bind fun q279 =>
      if q279.1 = 0 then
        (B_Md_step_290 a0 q31.1 v42 v51 v60 2 a0 q279.2)
      else
        (B_Md_step_290 a0 q31.1 v42 v51 v60 1 a0 q279.2)))
  else
    ((pfd 6 36 q10.2 a0 2).bind fun h18 =>
    some h18) := by
  refine (congrArg asU (if_pos ho)).trans ?_
  show asU (Lim 216 0 [some (.inr (.inr a0)), none, none, none, none] [] h) = _
  refine A_aload_n d_216_0 rfl ?_
  refine A_getfI rfl d_216_1 kF_6_297 (by decide) (fun v1 => ?_)
  refine A_aload_n d_216_4 rfl ?_
  refine A_iconst d_216_5 (by decide) ?_
  refine A_aload_n d_216_6 rfl ?_
  refine A_getfI rfl d_216_7 kF_6_294 (by decide) (fun v7 => ?_)
  refine A_call (t := 160) (way := 0) rfl d_216_10 rfl (cl kI_6_176 rfl) rfl (by decide) rfl (fun q10 => ?_)
  refine A_ne (t := 22) d_216_13 (by decide) ?_ ?_
  · refine A_iconst d_216_22 (by decide) ?_
    refine A_aload_n d_216_23 rfl ?_
    refine A_getfI rfl d_216_24 kF_6_294 (by decide) (fun v24 => ?_)
    refine A_aload_n d_216_27 rfl ?_
    refine A_getfI rfl d_216_28 kF_6_297 (by decide) (fun v28 => ?_)
    refine A_call (t := 159) (way := 2) rfl d_216_31 rfl (cl kI_6_193 rfl) rfl (by decide) rfl (fun q31 => ?_)
    refine A_istore_n d_216_34 rfl ?_
    refine A_aload_n d_216_35 rfl ?_
    refine A_getfA rfl d_216_36 kF_6_37 (fun v36 => ?_)
    refine A_iload_n d_216_39 rfl ?_
    refine A_iconst d_216_40 (by decide) ?_
    refine A_iadd d_216_41 ?_
    refine A_iald rfl d_216_42 (fun v42 => ?_)
    refine A_istore_n d_216_43 rfl ?_
    refine A_aload_n d_216_44 rfl ?_
    refine A_getfA rfl d_216_45 kF_6_37 (fun v45 => ?_)
    refine A_iload_n d_216_48 rfl ?_
    refine A_iconst d_216_49 (by decide) ?_
    refine A_iadd d_216_50 ?_
    refine A_iald rfl d_216_51 (fun v51 => ?_)
    refine A_istore_n d_216_52 rfl ?_
    refine A_aload_n d_216_53 rfl ?_
    refine A_getfA rfl d_216_54 kF_6_37 (fun v54 => ?_)
    refine A_iload_n d_216_57 rfl ?_
    refine A_iconst d_216_58 (by decide) ?_
    refine A_iadd d_216_59 ?_
    refine A_iald rfl d_216_60 (fun v60 => ?_)
    refine A_istore d_216_61 rfl ?_
    refine A_aload_n d_216_63 rfl ?_
    refine A_getfA rfl d_216_64 kF_6_37 (fun v64 => ?_)
    refine A_iload_n d_216_67 rfl ?_
    refine A_iald rfl d_216_68 (fun v68 => ?_)
    refine A_if (fun e69_0 => ?_) (fun e69_0 => ?_)
    · refine A_tab (t := 136) d_216_69 (by rw [e69_0]; decide) ?_
      refine A_aload_n d_216_136 rfl ?_
      refine A_iload_n d_216_137 rfl ?_
      refine A_aload_n d_216_138 rfl ?_
      refine A_getfA rfl d_216_139 kF_6_50 (fun v139 => ?_)
      refine A_iload_n d_216_142 rfl ?_
      refine A_iald rfl d_216_143 (fun v143 => ?_)
      refine A_callU (t := 207) (way := 0) rfl d_216_144 rfl (cl kI_6_307 rfl) rfl rfl rfl (fun h144 => ?_)
      refine A_goto (t := 293) d_216_147 (by decide) ?_
      exact A_ret rfl d_216_293
    refine A_if (fun e69_1 => ?_) (fun e69_1 => ?_)
    · refine A_tab (t := 150) d_216_69 (by rw [e69_1]; decide) ?_
      refine A_aload_n d_216_150 rfl ?_
      refine A_iload_n d_216_151 rfl ?_
      refine A_iload_n d_216_152 rfl ?_
      refine A_callU (t := 207) (way := 0) rfl d_216_153 rfl (cl kI_6_307 rfl) rfl rfl rfl (fun h153 => ?_)
      refine A_goto (t := 293) d_216_156 (by decide) ?_
      exact A_ret rfl d_216_293
    refine A_if (fun e69_2 => ?_) (fun e69_2 => ?_)
    · refine A_tab (t := 159) d_216_69 (by rw [e69_2]; decide) ?_
      refine A_aload_n d_216_159 rfl ?_
      refine A_iload_n d_216_160 rfl ?_
      refine A_iload_n d_216_161 rfl ?_
      refine A_callU (t := 213) (way := 0) rfl d_216_162 rfl (cl kI_6_320 rfl) rfl rfl rfl (fun h162 => ?_)
      refine A_goto (t := 293) d_216_165 (by decide) ?_
      exact A_ret rfl d_216_293
    refine A_if (fun e69_3 => ?_) (fun e69_3 => ?_)
    · refine A_tab (t := 168) d_216_69 (by rw [e69_3]; decide) ?_
      refine A_aload_n d_216_168 rfl ?_
      refine A_iload_n d_216_169 rfl ?_
      refine A_iload_n d_216_170 rfl ?_
      refine A_callU (t := 208) (way := 0) rfl d_216_171 rfl (cl kI_6_323 rfl) rfl rfl rfl (fun h171 => ?_)
      refine A_goto (t := 293) d_216_174 (by decide) ?_
      exact A_ret rfl d_216_293
    refine A_if (fun e69_4 => ?_) (fun e69_4 => ?_)
    · refine A_tab (t := 177) d_216_69 (by rw [e69_4]; decide) ?_
      refine A_aload_n d_216_177 rfl ?_
      refine A_iload_n d_216_178 rfl ?_
      refine A_iload_n d_216_179 rfl ?_
      refine A_iload d_216_180 rfl ?_
      refine A_callU (t := 209) (way := 0) rfl d_216_182 rfl (cl kI_6_326 rfl) rfl rfl rfl (fun h182 => ?_)
      refine A_goto (t := 293) d_216_185 (by decide) ?_
      exact A_ret rfl d_216_293
    refine A_if (fun e69_5 => ?_) (fun e69_5 => ?_)
    · refine A_tab (t := 188) d_216_69 (by rw [e69_5]; decide) ?_
      refine A_aload_n d_216_188 rfl ?_
      refine A_iload_n d_216_189 rfl ?_
      refine A_iload_n d_216_190 rfl ?_
      refine A_iload d_216_191 rfl ?_
      refine A_callU (t := 210) (way := 0) rfl d_216_193 rfl (cl kI_6_329 rfl) rfl rfl rfl (fun h193 => ?_)
      refine A_goto (t := 293) d_216_196 (by decide) ?_
      exact A_ret rfl d_216_293
    refine A_if (fun e69_6 => ?_) (fun e69_6 => ?_)
    · refine A_tab (t := 199) d_216_69 (by rw [e69_6]; decide) ?_
      refine A_aload_n d_216_199 rfl ?_
      refine A_iload_n d_216_200 rfl ?_
      refine A_callU (t := 211) (way := 0) rfl d_216_201 rfl (cl kI_6_332 rfl) rfl rfl rfl (fun h201 => ?_)
      refine A_goto (t := 293) d_216_204 (by decide) ?_
      exact A_ret rfl d_216_293
    refine A_if (fun e69_7 => ?_) (fun e69_7 => ?_)
    · refine A_tab (t := 207) d_216_69 (by rw [e69_7]; decide) ?_
      refine A_aload_n d_216_207 rfl ?_
      refine A_iload_n d_216_208 rfl ?_
      refine A_callU (t := 212) (way := 0) rfl d_216_209 rfl (cl kI_6_335 rfl) rfl rfl rfl (fun h209 => ?_)
      refine A_goto (t := 293) d_216_212 (by decide) ?_
      exact A_ret rfl d_216_293
    refine A_if (fun e69_8 => ?_) (fun e69_8 => ?_)
    · refine A_tab (t := 215) d_216_69 (by rw [e69_8]; decide) ?_
      refine A_aload_n d_216_215 rfl ?_
      refine A_iload_n d_216_216 rfl ?_
      refine A_sipush d_216_217 (by decide) ?_
      refine A_iload_n d_216_220 rfl ?_
      refine A_iadd d_216_221 ?_
      refine A_callU (t := 207) (way := 0) rfl d_216_222 rfl (cl kI_6_307 rfl) rfl rfl rfl (fun h222 => ?_)
      refine A_goto (t := 293) d_216_225 (by decide) ?_
      exact A_ret rfl d_216_293
    refine A_if (fun e69_9 => ?_) (fun e69_9 => ?_)
    · refine A_tab (t := 228) d_216_69 (by rw [e69_9]; decide) ?_
      refine A_aload_n d_216_228 rfl ?_
      refine A_iload_n d_216_229 rfl ?_
      refine A_callU (t := 206) (way := 0) rfl d_216_230 rfl (cl kI_6_316 rfl) rfl rfl rfl (fun h230 => ?_)
      refine A_goto (t := 293) d_216_233 (by decide) ?_
      exact A_ret rfl d_216_293
    refine A_if (fun e69_10 => ?_) (fun e69_10 => ?_)
    · refine A_tab (t := 236) d_216_69 (by rw [e69_10]; decide) ?_
      refine A_aload_n d_216_236 rfl ?_
      refine A_iload_n d_216_237 rfl ?_
      refine A_iload_n d_216_238 rfl ?_
      refine A_callU (t := 214) (way := 0) rfl d_216_239 rfl (cl kI_6_338 rfl) rfl rfl rfl (fun h239 => ?_)
      refine A_goto (t := 293) d_216_242 (by decide) ?_
      exact A_ret rfl d_216_293
    refine A_if (fun e69_11 => ?_) (fun e69_11 => ?_)
    · refine A_tab (t := 245) d_216_69 (by rw [e69_11]; decide) ?_
      refine A_aload_n d_216_245 rfl ?_
      refine A_getfA rfl d_216_246 kF_6_50 (fun v246 => ?_)
      refine A_iconst d_216_249 (by decide) ?_
      refine A_sipush d_216_250 (by decide) ?_
      refine A_iload_n d_216_253 rfl ?_
      refine A_iadd d_216_254 ?_
      refine A_iast rfl d_216_255 (fun h255 => ?_)
      refine A_aload_n d_216_256 rfl ?_
      refine A_iload_n d_216_257 rfl ?_
      refine A_callU (t := 206) (way := 0) rfl d_216_258 rfl (cl kI_6_316 rfl) rfl rfl rfl (fun h258 => ?_)
      refine A_goto (t := 293) d_216_261 (by decide) ?_
      exact A_ret rfl d_216_293
    refine A_if (fun e69_12 => ?_) (fun e69_12 => ?_)
    · refine A_tab (t := 264) d_216_69 (by rw [e69_12]; decide) ?_
      refine A_aload_n d_216_264 rfl ?_
      refine A_iload_n d_216_265 rfl ?_
      refine A_callU (t := 215) (way := 0) rfl d_216_266 rfl (cl kI_6_341 rfl) rfl rfl rfl (fun h266 => ?_)
      refine A_goto (t := 293) d_216_269 (by decide) ?_
      exact A_ret rfl d_216_293
    refine A_tab (t := 272) d_216_69 (by rw [if_pos (by omega)]; decide) ?_
    refine A_aload_n d_216_272 rfl ?_
    refine A_aload_n d_216_273 rfl ?_
    refine A_getfA rfl d_216_274 kF_6_50 (fun v274 => ?_)
    refine A_iconst d_216_277 (by decide) ?_
    refine A_iald rfl d_216_278 (fun v278 => ?_)
    refine A_call (t := 204) (way := 2) rfl d_216_279 rfl (cl kI_6_313 rfl) rfl (by decide) rfl (fun q279 => ?_)
    refine A_eq0 (t := 289) d_216_282 (by decide) ?_ ?_
    · refine A_iconst d_216_289 (by decide) ?_
      exact rfl
    · refine A_iconst d_216_285 (by decide) ?_
      refine A_goto (t := 290) d_216_286 (by decide) ?_
      exact rfl
  · refine A_aload_n d_216_16 rfl ?_
    refine A_iconst d_216_17 (by decide) ?_
    refine A_putfI rfl d_216_18 kF_6_300 rfl (fun h18 => ?_)
    exact A_ret rfl d_216_21
set_option maxRecDepth 20000 in
theorem q_Md_run_49 (a0 : Nat) (x1 : Int) (x2 : Int) (x3 : Int) (x4 : Int) (x5 : Int) (h : mH) : B_Md_run_49 a0 x1 x2 x3 x4 x5 h =
  if x2 ≤ x5 then
    (B_Md_run_90 a0 x1 x2 x3 x4 x5 h)
  else
    ((gfd 6 36 h a0).bind fun v56 =>
    if v56 ≠ 0 then
      (B_Md_run_90 a0 x1 x2 x3 x4 x5 h)
    else
      ((F_Md_step a0 h).bind fun h63 =>
      (gfd 6 36 h63 a0).bind fun v69 =>
      if 2 ≤ v69 then
        (B_Md_run_81 a0 x1 x2 x3 x4 x5 0 x4 h63)
      else
        (B_Md_run_81 a0 x1 x2 x3 x4 x5 1 x4 h63))) := by
  unfold B_Md_run_49
  refine A_iload d_217_49 rfl ?_
  refine A_iload_n d_217_51 rfl ?_
  refine A_ge (t := 90) d_217_52 (by decide) ?_ ?_
  · exact rfl
  · refine A_aload_n d_217_55 rfl ?_
    refine A_getfI rfl d_217_56 kF_6_300 (by decide) (fun v56 => ?_)
    refine A_ne0 (t := 90) d_217_59 (by decide) ?_ ?_
    · exact rfl
    · refine A_aload_n d_217_62 rfl ?_
      refine A_callU (t := 216) (way := 0) rfl d_217_63 rfl (cl kI_6_353 rfl) rfl rfl rfl (fun h63 => ?_)
      refine A_iload d_217_66 rfl ?_
      refine A_aload_n d_217_68 rfl ?_
      refine A_getfI rfl d_217_69 kF_6_300 (by decide) (fun v69 => ?_)
      refine A_iconst d_217_72 (by decide) ?_
      refine A_ge (t := 80) d_217_73 (by decide) ?_ ?_
      · refine A_iconst d_217_80 (by decide) ?_
        exact rfl
      · refine A_iconst d_217_76 (by decide) ?_
        refine A_goto (t := 81) d_217_77 (by decide) ?_
        exact rfl
set_option maxRecDepth 20000 in
theorem q_Md_run_81 (a0 : Nat) (x1 : Int) (x2 : Int) (x3 : Int) (x4 : Int) (x5 : Int) (s0 : Int) (s1 : Int) (h : mH) : B_Md_run_81 a0 x1 x2 x3 x4 x5 s0 s1 h =
  B_Md_run_49 a0 x1 x2 x3 (w32 (s1 + s0)) (w32 (x5 + 1)) h := by
  unfold B_Md_run_81
  refine A_iadd d_217_81 ?_
  refine A_istore d_217_82 rfl ?_
  refine A_iinc d_217_84 (by decide) rfl rfl ?_
  refine A_goto (t := 49) d_217_87 (by decide) ?_
  exact rfl
set_option maxRecDepth 20000 in
theorem q_Md_run_90 (a0 : Nat) (x1 : Int) (x2 : Int) (x3 : Int) (x4 : Int) (x5 : Int) (h : mH) : B_Md_run_90 a0 x1 x2 x3 x4 x5 h =
  if x3 ≠ 0 then
    (if x3 ≠ 1 then
      (if x3 ≠ 2 then
        (if x3 ≠ 3 then
          ((gfd 6 28 h a0).bind fun v136 =>
          (ald 10 h v136.toNat 0).bind fun v140 =>
          (F_Md_isWord v140 h).bind fun q141 =>
          if q141.1 = 0 then
            (some ((-4), q141.2))
          else
            ((gfd 6 28 q141.2 a0).bind fun v148 =>
            (ald 10 q141.2 v148.toNat 0).bind fun v152 =>
            some (v152, q141.2)))
        else
          ((gfd 6 34 h a0).bind fun v129 =>
          some (v129, h)))
      else
        ((gfd 6 35 h a0).bind fun v117 =>
        some (v117, h)))
    else
      (some (x4, h)))
  else
    ((gfd 6 36 h a0).bind fun v95 =>
    some (v95, h)) := by
  unfold B_Md_run_90
  refine A_iload_n d_217_90 rfl ?_
  refine A_ne0 (t := 101) d_217_91 (by decide) ?_ ?_
  · refine A_iload_n d_217_101 rfl ?_
    refine A_iconst d_217_102 (by decide) ?_
    refine A_ne (t := 111) d_217_103 (by decide) ?_ ?_
    · refine A_iload_n d_217_111 rfl ?_
      refine A_iconst d_217_112 (by decide) ?_
      refine A_ne (t := 123) d_217_113 (by decide) ?_ ?_
      · refine A_iload_n d_217_123 rfl ?_
        refine A_iconst d_217_124 (by decide) ?_
        refine A_ne (t := 135) d_217_125 (by decide) ?_ ?_
        · refine A_aload_n d_217_135 rfl ?_
          refine A_getfA rfl d_217_136 kF_6_50 (fun v136 => ?_)
          refine A_iconst d_217_139 (by decide) ?_
          refine A_iald rfl d_217_140 (fun v140 => ?_)
          refine A_call (t := 204) (way := 2) rfl d_217_141 rfl (cl kI_6_313 rfl) rfl (by decide) rfl (fun q141 => ?_)
          refine A_eq0 (t := 156) d_217_144 (by decide) ?_ ?_
          · refine A_bipush d_217_156 (by decide) ?_
            exact A_ireti rfl d_217_158
          · refine A_aload_n d_217_147 rfl ?_
            refine A_getfA rfl d_217_148 kF_6_50 (fun v148 => ?_)
            refine A_iconst d_217_151 (by decide) ?_
            refine A_iald rfl d_217_152 (fun v152 => ?_)
            refine A_goto (t := 158) d_217_153 (by decide) ?_
            exact A_ireti rfl d_217_158
        · refine A_aload_n d_217_128 rfl ?_
          refine A_getfI rfl d_217_129 kF_6_297 (by decide) (fun v129 => ?_)
          refine A_goto (t := 158) d_217_132 (by decide) ?_
          exact A_ireti rfl d_217_158
      · refine A_aload_n d_217_116 rfl ?_
        refine A_getfI rfl d_217_117 kF_6_294 (by decide) (fun v117 => ?_)
        refine A_goto (t := 158) d_217_120 (by decide) ?_
        exact A_ireti rfl d_217_158
    · refine A_iload d_217_106 rfl ?_
      refine A_goto (t := 158) d_217_108 (by decide) ?_
      exact A_ireti rfl d_217_158
  · refine A_aload_n d_217_94 rfl ?_
    refine A_getfI rfl d_217_95 kF_6_300 (by decide) (fun v95 => ?_)
    refine A_goto (t := 158) d_217_98 (by decide) ?_
    exact A_ireti rfl d_217_158
set_option maxRecDepth 20000 in
theorem q_Md_run (a0 : Nat) (x1 : Int) (x2 : Int) (x3 : Int) (h : mH) (ho : isO h a0 6 = true) : F_Md_run a0 x1 x2 x3 h =
  (F_Md_in x1 0 99 h).bind fun q6 =>
  if q6.1 = 0 then
    (some ((-1), q6.2))
  else
    ((F_Md_in x2 0 200 q6.2).bind fun q18 =>
    if q18.1 = 0 then
      (some ((-1), q18.2))
    else
      ((F_Md_in x3 0 4 q18.2).bind fun q30 =>
      if q30.1 ≠ 0 then
        ((F_Md_starts a0 x1 q30.2).bind fun h40 =>
        B_Md_run_49 a0 x1 x2 x3 0 0 h40)
      else
        (some ((-1), q30.2)))) := by
  refine (congrArg asI (if_pos ho)).trans ?_
  show asI (Lim 217 0 [some (.inr (.inr a0)), some (.inl x1), some (.inl x2), some (.inl x3), none, none] [] h) = _
  refine A_iload_n d_217_0 rfl ?_
  refine A_i2l d_217_1 ?_
  refine A_lconst d_217_2 (x := 0) rfl ?_
  refine A_ldc2 d_217_3 kJ_6_344 ?_
  refine A_call (t := 135) (way := 2) rfl d_217_6 rfl (cl kI_6_106 rfl) rfl (by decide) rfl (fun q6 => ?_)
  refine A_eq0 (t := 36) d_217_9 (by decide) ?_ ?_
  · refine A_iconst d_217_36 (by decide) ?_
    exact A_ireti rfl d_217_37
  · refine A_iload_n d_217_12 rfl ?_
    refine A_i2l d_217_13 ?_
    refine A_lconst d_217_14 (x := 0) rfl ?_
    refine A_ldc2 d_217_15 kJ_6_346 ?_
    refine A_call (t := 135) (way := 2) rfl d_217_18 rfl (cl kI_6_106 rfl) rfl (by decide) rfl (fun q18 => ?_)
    refine A_eq0 (t := 36) d_217_21 (by decide) ?_ ?_
    · refine A_iconst d_217_36 (by decide) ?_
      exact A_ireti rfl d_217_37
    · refine A_iload_n d_217_24 rfl ?_
      refine A_i2l d_217_25 ?_
      refine A_lconst d_217_26 (x := 0) rfl ?_
      refine A_ldc2 d_217_27 kJ_6_348 ?_
      refine A_call (t := 135) (way := 2) rfl d_217_30 rfl (cl kI_6_106 rfl) rfl (by decide) rfl (fun q30 => ?_)
      refine A_ne0 (t := 38) d_217_33 (by decide) ?_ ?_
      · refine A_aload_n d_217_38 rfl ?_
        refine A_iload_n d_217_39 rfl ?_
        refine A_callU (t := 203) (way := 0) rfl d_217_40 rfl (cl kI_6_350 rfl) rfl rfl rfl (fun h40 => ?_)
        refine A_iconst d_217_43 (by decide) ?_
        refine A_istore d_217_44 rfl ?_
        refine A_iconst d_217_46 (by decide) ?_
        refine A_istore d_217_47 rfl ?_
        exact rfl
      · refine A_iconst d_217_36 (by decide) ?_
        exact A_ireti rfl d_217_37
set_option maxRecDepth 20000 in
theorem q_Md_day_50 (a0 : Nat) (x1 : Int) (x2 : Int) (x3 : Int) (x4 : Int) (x5 : Int) (o6 : Option mV) (o8 : Option mV) (o9 : Option mV) (o10 : Option mV) (o11 : Option mV) (o12 : Option mV) (h : mH) : B_Md_day_50 a0 x1 x2 x3 x4 x5 o6 o8 o9 o10 o11 o12 h =
  if x2 ≤ x5 then
    (if x3 ≠ 0 then
      (some (x4, h))
    else
      ((F_Md_sureOnes a0 1320 h).bind fun q242 =>
      (F_Md_bits q242.1 q242.2).bind fun q245 =>
      some (q245.1, q245.2)))
  else
    (B_Md_day_86 a0 x1 x2 x3 x4 x5 (w64 ((w64 ((w64 (7919 * x1)) + (w64 (6151 * x5)))) + 1)) (w32 (Int.tmod (w64 ((w64 ((w64 ((w64 (7919 * x1)) + (w64 (6151 * x5)))) + 1)) * (w64 ((w64 ((w64 (7919 * x1)) + (w64 (6151 * x5)))) + 1)))) 65521)) o9 o10 o11 o12 h) := by
  unfold B_Md_day_50
  refine A_iload d_218_50 rfl ?_
  refine A_iload_n d_218_52 rfl ?_
  refine A_ge (t := 234) d_218_53 (by decide) ?_ ?_
  · refine A_iload_n d_218_234 rfl ?_
    refine A_ne0 (t := 251) d_218_235 (by decide) ?_ ?_
    · refine A_iload d_218_251 rfl ?_
      exact A_ireti rfl d_218_253
    · refine A_aload_n d_218_238 rfl ?_
      refine A_sipush d_218_239 (by decide) ?_
      refine A_call (t := 196) (way := 0) rfl d_218_242 rfl (cl kI_6_282 rfl) rfl (by decide) rfl (fun q242 => ?_)
      refine A_call (t := 137) (way := 2) rfl d_218_245 rfl (cl kI_6_366 rfl) rfl (by decide) rfl (fun q245 => ?_)
      refine A_goto (t := 253) d_218_248 (by decide) ?_
      exact A_ireti rfl d_218_253
  · refine A_ldc2 d_218_56 kJ_6_360 ?_
    refine A_iload_n d_218_59 rfl ?_
    refine A_i2l d_218_60 ?_
    refine A_lmul d_218_61 ?_
    refine A_ldc2 d_218_62 kJ_6_362 ?_
    refine A_iload d_218_65 rfl ?_
    refine A_i2l d_218_67 ?_
    refine A_lmul d_218_68 ?_
    refine A_ladd d_218_69 ?_
    refine A_lconst d_218_70 (x := 1) rfl ?_
    refine A_ladd d_218_71 ?_
    refine A_lstore d_218_72 rfl ?_
    refine A_lload d_218_74 rfl ?_
    refine A_lload d_218_76 rfl ?_
    refine A_lmul d_218_78 ?_
    refine A_ldc2 d_218_79 kJ_6_364 ?_
    refine A_lrem d_218_82 (by decide) ?_
    refine A_l2i d_218_83 ?_
    refine A_istore d_218_84 rfl ?_
    exact rfl
set_option maxRecDepth 20000 in
theorem q_Md_day_86 (a0 : Nat) (x1 : Int) (x2 : Int) (x3 : Int) (x4 : Int) (x5 : Int) (y6 : Int) (x8 : Int) (o9 : Option mV) (o10 : Option mV) (o11 : Option mV) (o12 : Option mV) (h : mH) : B_Md_day_86 a0 x1 x2 x3 x4 x5 y6 x8 o9 o10 o11 o12 h =
  (gfd 6 3 h a0).bind fun v89 =>
  (nz v89).bind fun _ =>
  (F_Md_many a0 1320 (Int.tmod x8 v89) h).bind fun q130 =>
  if q130.1 ≤ 0 then
    (B_Md_day_200 a0 x1 x2 x3 x4 x5 y6 x8 (Int.tmod x8 v89) (Int.tmod (w32 (Int.tdiv x8 64)) 5) (Int.tmod (w32 (Int.tdiv x8 512)) 4) (Int.tmod (w32 (Int.tdiv x8 2048)) 4) q130.2)
  else
    ((F_Md_many a0 1320 (Int.tmod x8 v89) q130.2).bind fun q153 =>
    (nz q153.1).bind fun _ =>
    if 3 ≤ Int.tmod (w32 (Int.tdiv x8 64)) 5 then
      (B_Md_day_172 a0 x1 x2 x3 x4 x5 y6 x8 (Int.tmod x8 v89) (Int.tmod (w32 (Int.tdiv x8 64)) 5) (Int.tmod (w32 (Int.tdiv x8 512)) 4) (Int.tmod (w32 (Int.tdiv x8 2048)) 4) (w32 ((Int.tmod (w32 (Int.tdiv x8 64)) 5) + 3)) (Int.tmod (w32 (Int.tdiv x8 8)) q153.1) (Int.tmod x8 v89) 1320 a0 q153.2)
    else
      (B_Md_day_172 a0 x1 x2 x3 x4 x5 y6 x8 (Int.tmod x8 v89) (Int.tmod (w32 (Int.tdiv x8 64)) 5) (Int.tmod (w32 (Int.tdiv x8 512)) 4) (Int.tmod (w32 (Int.tdiv x8 2048)) 4) (Int.tmod (w32 (Int.tdiv x8 64)) 5) (Int.tmod (w32 (Int.tdiv x8 8)) q153.1) (Int.tmod x8 v89) 1320 a0 q153.2)) := by
  unfold B_Md_day_86
  refine A_iload d_218_86 rfl ?_
  refine A_aload_n d_218_88 rfl ?_
  refine A_getfI rfl d_218_89 kF_6_93 (by decide) (fun v89 => ?_)
  refine A_iremO rfl d_218_92 ?_
  refine A_istore d_218_93 rfl ?_
  refine A_iload d_218_95 rfl ?_
  refine A_bipush d_218_97 (by decide) ?_
  refine A_idiv d_218_99 (by decide) ?_
  refine A_iconst d_218_100 (by decide) ?_
  refine A_irem d_218_101 (by decide) ?_
  refine A_istore d_218_102 rfl ?_
  refine A_iload d_218_104 rfl ?_
  refine A_sipush d_218_106 (by decide) ?_
  refine A_idiv d_218_109 (by decide) ?_
  refine A_iconst d_218_110 (by decide) ?_
  refine A_irem d_218_111 (by decide) ?_
  refine A_istore d_218_112 rfl ?_
  refine A_iload d_218_114 rfl ?_
  refine A_sipush d_218_116 (by decide) ?_
  refine A_idiv d_218_119 (by decide) ?_
  refine A_iconst d_218_120 (by decide) ?_
  refine A_irem d_218_121 (by decide) ?_
  refine A_istore d_218_122 rfl ?_
  refine A_aload_n d_218_124 rfl ?_
  refine A_sipush d_218_125 (by decide) ?_
  refine A_iload d_218_128 rfl ?_
  refine A_call (t := 160) (way := 0) rfl d_218_130 rfl (cl kI_6_176 rfl) rfl (by decide) rfl (fun q130 => ?_)
  refine A_le0 (t := 200) d_218_133 (by decide) ?_ ?_
  · exact rfl
  · refine A_aload_n d_218_136 rfl ?_
    refine A_sipush d_218_137 (by decide) ?_
    refine A_iload d_218_140 rfl ?_
    refine A_iload d_218_142 rfl ?_
    refine A_bipush d_218_144 (by decide) ?_
    refine A_idiv d_218_146 (by decide) ?_
    refine A_aload_n d_218_147 rfl ?_
    refine A_sipush d_218_148 (by decide) ?_
    refine A_iload d_218_151 rfl ?_
    refine A_call (t := 160) (way := 0) rfl d_218_153 rfl (cl kI_6_176 rfl) rfl (by decide) rfl (fun q153 => ?_)
    refine A_iremO rfl d_218_156 ?_
    refine A_iload d_218_157 rfl ?_
    refine A_iconst d_218_159 (by decide) ?_
    refine A_ge (t := 168) d_218_160 (by decide) ?_ ?_
    · refine A_iload d_218_168 rfl ?_
      refine A_iconst d_218_170 (by decide) ?_
      refine A_iadd d_218_171 ?_
      exact rfl
    · refine A_iload d_218_163 rfl ?_
      refine A_goto (t := 172) d_218_165 (by decide) ?_
      exact rfl
set_option maxRecDepth 20000 in
theorem q_Md_day_172 (a0 : Nat) (x1 : Int) (x2 : Int) (x3 : Int) (x4 : Int) (x5 : Int) (y6 : Int) (x8 : Int) (x9 : Int) (x10 : Int) (x11 : Int) (x12 : Int) (s0 : Int) (s1 : Int) (s2 : Int) (s3 : Int) (sa4 : Nat) (h : mH) : B_Md_day_172 a0 x1 x2 x3 x4 x5 y6 x8 x9 x10 x11 x12 s0 s1 s2 s3 sa4 h =
  if x10 ≠ 1 then
    (if 3 ≤ x10 then
      (B_Md_day_196 a0 x1 x2 x3 x4 x5 y6 x8 x9 x10 x11 x12 0 x11 s0 s1 s2 s3 sa4 h)
    else
      (B_Md_day_196 a0 x1 x2 x3 x4 x5 y6 x8 x9 x10 x11 x12 x12 x11 s0 s1 s2 s3 sa4 h))
  else
    (B_Md_day_196 a0 x1 x2 x3 x4 x5 y6 x8 x9 x10 x11 x12 1 x11 s0 s1 s2 s3 sa4 h) := by
  unfold B_Md_day_172
  refine A_iload d_218_172 rfl ?_
  refine A_iload d_218_174 rfl ?_
  refine A_iconst d_218_176 (by decide) ?_
  refine A_ne (t := 184) d_218_177 (by decide) ?_ ?_
  · refine A_iload d_218_184 rfl ?_
    refine A_iconst d_218_186 (by decide) ?_
    refine A_ge (t := 195) d_218_187 (by decide) ?_ ?_
    · refine A_iconst d_218_195 (by decide) ?_
      exact rfl
    · refine A_iload d_218_190 rfl ?_
      refine A_goto (t := 196) d_218_192 (by decide) ?_
      exact rfl
  · refine A_iconst d_218_180 (by decide) ?_
    refine A_goto (t := 196) d_218_181 (by decide) ?_
    exact rfl
set_option maxRecDepth 20000 in
theorem q_Md_day_196 (a0 : Nat) (x1 : Int) (x2 : Int) (x3 : Int) (x4 : Int) (x5 : Int) (y6 : Int) (x8 : Int) (x9 : Int) (x10 : Int) (x11 : Int) (x12 : Int) (s0 : Int) (s1 : Int) (s2 : Int) (s3 : Int) (s4 : Int) (s5 : Int) (sa6 : Nat) (h : mH) : B_Md_day_196 a0 x1 x2 x3 x4 x5 y6 x8 x9 x10 x11 x12 s0 s1 s2 s3 s4 s5 sa6 h =
  (F_Md_writes sa6 s5 s4 s3 s2 s1 s0 0 h).bind fun h197 =>
  B_Md_day_200 a0 x1 x2 x3 x4 x5 y6 x8 x9 x10 x11 x12 h197 := by
  unfold B_Md_day_196
  refine A_iconst d_218_196 (by decide) ?_
  refine A_callU (t := 168) (way := 0) rfl d_218_197 rfl (cl kI_6_202 rfl) rfl rfl rfl (fun h197 => ?_)
  exact rfl
set_option maxRecDepth 20000 in
theorem q_Md_day_200 (a0 : Nat) (x1 : Int) (x2 : Int) (x3 : Int) (x4 : Int) (x5 : Int) (y6 : Int) (x8 : Int) (x9 : Int) (x10 : Int) (x11 : Int) (x12 : Int) (h : mH) : B_Md_day_200 a0 x1 x2 x3 x4 x5 y6 x8 x9 x10 x11 x12 h =
  (F_Md_sureOnes a0 1320 h).bind fun q206 =>
  (gfd 6 3 q206.2 a0).bind fun v211 =>
  if q206.1 ≠ w32 ((ishl 1 v211) - 1) then
    (B_Md_day_225 a0 x1 x2 x3 x4 x5 y6 x8 x9 x10 x11 x12 0 x4 q206.2)
  else
    (B_Md_day_225 a0 x1 x2 x3 x4 x5 y6 x8 x9 x10 x11 x12 1 x4 q206.2) := by
  unfold B_Md_day_200
  refine A_iload d_218_200 rfl ?_
  refine A_aload_n d_218_202 rfl ?_
  refine A_sipush d_218_203 (by decide) ?_
  refine A_call (t := 196) (way := 0) rfl d_218_206 rfl (cl kI_6_282 rfl) rfl (by decide) rfl (fun q206 => ?_)
  refine A_iconst d_218_209 (by decide) ?_
  refine A_aload_n d_218_210 rfl ?_
  refine A_getfI rfl d_218_211 kF_6_93 (by decide) (fun v211 => ?_)
  refine A_ishl d_218_214 ?_
  refine A_iconst d_218_215 (by decide) ?_
  refine A_isub d_218_216 ?_
  refine A_ne (t := 224) d_218_217 (by decide) ?_ ?_
  · refine A_iconst d_218_224 (by decide) ?_
    exact rfl
  · refine A_iconst d_218_220 (by decide) ?_
    refine A_goto (t := 225) d_218_221 (by decide) ?_
    exact rfl
set_option maxRecDepth 20000 in
theorem q_Md_day_225 (a0 : Nat) (x1 : Int) (x2 : Int) (x3 : Int) (x4 : Int) (x5 : Int) (y6 : Int) (x8 : Int) (x9 : Int) (x10 : Int) (x11 : Int) (x12 : Int) (s0 : Int) (s1 : Int) (h : mH) : B_Md_day_225 a0 x1 x2 x3 x4 x5 y6 x8 x9 x10 x11 x12 s0 s1 h =
  B_Md_day_50 a0 x1 x2 x3 (w32 (s1 + s0)) (w32 (x5 + 1)) (some (.inr (.inl y6))) (some (.inl x8)) (some (.inl x9)) (some (.inl x10)) (some (.inl x11)) (some (.inl x12)) h := by
  unfold B_Md_day_225
  refine A_iadd d_218_225 ?_
  refine A_istore d_218_226 rfl ?_
  refine A_iinc d_218_228 (by decide) rfl rfl ?_
  refine A_goto (t := 50) d_218_231 (by decide) ?_
  exact rfl
set_option maxRecDepth 20000 in
theorem q_Md_day (a0 : Nat) (x1 : Int) (x2 : Int) (x3 : Int) (h : mH) (ho : isO h a0 6 = true) : F_Md_day a0 x1 x2 x3 h =
  (F_Md_in x1 0 9999 h).bind fun q6 =>
  if q6.1 = 0 then
    (some ((-1), q6.2))
  else
    ((F_Md_in x2 1 20 q6.2).bind fun q18 =>
    if q18.1 = 0 then
      (some ((-1), q18.2))
    else
      ((F_Md_in x3 0 1 q18.2).bind fun q28 =>
      if q28.1 ≠ 0 then
        ((F_Md_copies a0 0 1320 q28.2).bind fun h41 =>
        B_Md_day_50 a0 x1 x2 x3 0 0 none none none none none none h41)
      else
        (some ((-1), q28.2)))) := by
  refine (congrArg asI (if_pos ho)).trans ?_
  show asI (Lim 218 0 [some (.inr (.inr a0)), some (.inl x1), some (.inl x2), some (.inl x3), none, none, none, none, none, none, none, none, none] [] h) = _
  refine A_iload_n d_218_0 rfl ?_
  refine A_i2l d_218_1 ?_
  refine A_lconst d_218_2 (x := 0) rfl ?_
  refine A_ldc2 d_218_3 kJ_6_356 ?_
  refine A_call (t := 135) (way := 2) rfl d_218_6 rfl (cl kI_6_106 rfl) rfl (by decide) rfl (fun q6 => ?_)
  refine A_eq0 (t := 34) d_218_9 (by decide) ?_ ?_
  · refine A_iconst d_218_34 (by decide) ?_
    exact A_ireti rfl d_218_35
  · refine A_iload_n d_218_12 rfl ?_
    refine A_i2l d_218_13 ?_
    refine A_lconst d_218_14 (x := 1) rfl ?_
    refine A_ldc2 d_218_15 kJ_6_358 ?_
    refine A_call (t := 135) (way := 2) rfl d_218_18 rfl (cl kI_6_106 rfl) rfl (by decide) rfl (fun q18 => ?_)
    refine A_eq0 (t := 34) d_218_21 (by decide) ?_ ?_
    · refine A_iconst d_218_34 (by decide) ?_
      exact A_ireti rfl d_218_35
    · refine A_iload_n d_218_24 rfl ?_
      refine A_i2l d_218_25 ?_
      refine A_lconst d_218_26 (x := 0) rfl ?_
      refine A_lconst d_218_27 (x := 1) rfl ?_
      refine A_call (t := 135) (way := 2) rfl d_218_28 rfl (cl kI_6_106 rfl) rfl (by decide) rfl (fun q28 => ?_)
      refine A_ne0 (t := 36) d_218_31 (by decide) ?_ ?_
      · refine A_aload_n d_218_36 rfl ?_
        refine A_iconst d_218_37 (by decide) ?_
        refine A_sipush d_218_38 (by decide) ?_
        refine A_callU (t := 166) (way := 0) rfl d_218_41 rfl (cl kI_6_196 rfl) rfl rfl rfl (fun h41 => ?_)
        refine A_iconst d_218_44 (by decide) ?_
        refine A_istore d_218_45 rfl ?_
        refine A_iconst d_218_47 (by decide) ?_
        refine A_istore d_218_48 rfl ?_
        exact rfl
      · refine A_iconst d_218_34 (by decide) ?_
        exact A_ireti rfl d_218_35
set_option maxRecDepth 20000 in
theorem q_Md_keep (a0 : Nat) (h : mH) (ho : isO h a0 6 = true) : F_Md_keep a0 h =
  (gfd 6 16 h a0).bind fun v1 =>
  if v1 ≠ 2 then
    ((gfd 6 16 h a0).bind fun v17 =>
    (F_Md_copies a0 0 (w32 (1080 + (w32 (v17 * 120)))) h).bind fun h24 =>
    (gfd 6 16 h24 a0).bind fun v29 =>
    (pfd 6 16 h24 a0 (w32 (v29 + 1))).bind fun h34 =>
    (gfd 6 16 h34 a0).bind fun v38 =>
    some (v38, h34))
  else
    (some ((-3), h)) := by
  refine (congrArg asI (if_pos ho)).trans ?_
  show asI (Lim 219 0 [some (.inr (.inr a0))] [] h) = _
  refine A_aload_n d_219_0 rfl ?_
  refine A_getfI rfl d_219_1 kF_6_99 (by decide) (fun v1 => ?_)
  refine A_iconst d_219_4 (by decide) ?_
  refine A_ne (t := 11) d_219_5 (by decide) ?_ ?_
  · refine A_aload_n d_219_11 rfl ?_
    refine A_iconst d_219_12 (by decide) ?_
    refine A_sipush d_219_13 (by decide) ?_
    refine A_aload_n d_219_16 rfl ?_
    refine A_getfI rfl d_219_17 kF_6_99 (by decide) (fun v17 => ?_)
    refine A_bipush d_219_20 (by decide) ?_
    refine A_imul d_219_22 ?_
    refine A_iadd d_219_23 ?_
    refine A_callU (t := 166) (way := 0) rfl d_219_24 rfl (cl kI_6_196 rfl) rfl rfl rfl (fun h24 => ?_)
    refine A_aload_n d_219_27 rfl ?_
    refine A_dup d_219_28 rfl ?_
    refine A_getfI rfl d_219_29 kF_6_99 (by decide) (fun v29 => ?_)
    refine A_iconst d_219_32 (by decide) ?_
    refine A_iadd d_219_33 ?_
    refine A_putfI rfl d_219_34 kF_6_99 rfl (fun h34 => ?_)
    refine A_aload_n d_219_37 rfl ?_
    refine A_getfI rfl d_219_38 kF_6_99 (by decide) (fun v38 => ?_)
    exact A_ireti rfl d_219_41
  · refine A_bipush d_219_8 (by decide) ?_
    exact A_ireti rfl d_219_10
set_option maxRecDepth 20000 in
theorem q_Md_back (a0 : Nat) (h : mH) (ho : isO h a0 6 = true) : F_Md_back a0 h =
  (gfd 6 16 h a0).bind fun v1 =>
  if v1 ≠ 0 then
    ((gfd 6 16 h a0).bind fun v12 =>
    (pfd 6 16 h a0 (w32 (v12 - 1))).bind fun h17 =>
    (gfd 6 16 h17 a0).bind fun v25 =>
    (F_Md_copies a0 (w32 (1080 + (w32 (v25 * 120)))) 0 h17).bind fun h33 =>
    (pfd 6 15 h33 a0 0).bind fun h38 =>
    (gfd 6 16 h38 a0).bind fun v42 =>
    some (v42, h38))
  else
    (some ((-2), h)) := by
  refine (congrArg asI (if_pos ho)).trans ?_
  show asI (Lim 220 0 [some (.inr (.inr a0))] [] h) = _
  refine A_aload_n d_220_0 rfl ?_
  refine A_getfI rfl d_220_1 kF_6_99 (by decide) (fun v1 => ?_)
  refine A_ne0 (t := 10) d_220_4 (by decide) ?_ ?_
  · refine A_aload_n d_220_10 rfl ?_
    refine A_dup d_220_11 rfl ?_
    refine A_getfI rfl d_220_12 kF_6_99 (by decide) (fun v12 => ?_)
    refine A_iconst d_220_15 (by decide) ?_
    refine A_isub d_220_16 ?_
    refine A_putfI rfl d_220_17 kF_6_99 rfl (fun h17 => ?_)
    refine A_aload_n d_220_20 rfl ?_
    refine A_sipush d_220_21 (by decide) ?_
    refine A_aload_n d_220_24 rfl ?_
    refine A_getfI rfl d_220_25 kF_6_99 (by decide) (fun v25 => ?_)
    refine A_bipush d_220_28 (by decide) ?_
    refine A_imul d_220_30 ?_
    refine A_iadd d_220_31 ?_
    refine A_iconst d_220_32 (by decide) ?_
    refine A_callU (t := 166) (way := 0) rfl d_220_33 rfl (cl kI_6_196 rfl) rfl rfl rfl (fun h33 => ?_)
    refine A_aload_n d_220_36 rfl ?_
    refine A_iconst d_220_37 (by decide) ?_
    refine A_putfI rfl d_220_38 kF_6_96 rfl (fun h38 => ?_)
    refine A_aload_n d_220_41 rfl ?_
    refine A_getfI rfl d_220_42 kF_6_99 (by decide) (fun v42 => ?_)
    exact A_ireti rfl d_220_45
  · refine A_bipush d_220_7 (by decide) ?_
    exact A_ireti rfl d_220_9
set_option maxRecDepth 20000 in
theorem q_Md_count_18 (a0 : Nat) (x1 : Int) (x2 : Int) (x3 : Int) (h : mH) : B_Md_count_18 a0 x1 x2 x3 h =
  (gfd 6 3 h a0).bind fun v20 =>
  if v20 ≤ x3 then
    (if x1 ≠ 0 then
      (if x1 ≠ 1 then
        (if x1 ≠ 2 then
          (if x1 ≠ 3 then
            (if x1 ≠ 4 then
              (if x1 ≠ 5 then
                ((gfd 6 17 h a0).bind fun v114 =>
                some (v114, h))
              else
                ((gfd 6 16 h a0).bind fun v107 =>
                some (v107, h)))
            else
              ((gfd 6 15 h a0).bind fun v95 =>
              some (v95, h)))
          else
            ((F_Md_sureOnes a0 0 h).bind fun q80 =>
            (F_Md_bits q80.1 q80.2).bind fun q83 =>
            some (q83.1, q83.2)))
        else
          (some (x2, h)))
      else
        ((gfd 6 3 h a0).bind fun v58 =>
        some (v58, h)))
    else
      ((gfd 6 0 h a0).bind fun v46 =>
      some (v46, h)))
  else
    ((F_Md_many a0 0 x3 h).bind fun q30 =>
    B_Md_count_18 a0 x1 (w32 (x2 + q30.1)) (w32 (x3 + 1)) q30.2) := by
  unfold B_Md_count_18
  refine A_iload_n d_221_18 rfl ?_
  refine A_aload_n d_221_19 rfl ?_
  refine A_getfI rfl d_221_20 kF_6_93 (by decide) (fun v20 => ?_)
  refine A_ge (t := 41) d_221_23 (by decide) ?_ ?_
  · refine A_iload_n d_221_41 rfl ?_
    refine A_ne0 (t := 52) d_221_42 (by decide) ?_ ?_
    · refine A_iload_n d_221_52 rfl ?_
      refine A_iconst d_221_53 (by decide) ?_
      refine A_ne (t := 64) d_221_54 (by decide) ?_ ?_
      · refine A_iload_n d_221_64 rfl ?_
        refine A_iconst d_221_65 (by decide) ?_
        refine A_ne (t := 73) d_221_66 (by decide) ?_ ?_
        · refine A_iload_n d_221_73 rfl ?_
          refine A_iconst d_221_74 (by decide) ?_
          refine A_ne (t := 89) d_221_75 (by decide) ?_ ?_
          · refine A_iload_n d_221_89 rfl ?_
            refine A_iconst d_221_90 (by decide) ?_
            refine A_ne (t := 101) d_221_91 (by decide) ?_ ?_
            · refine A_iload_n d_221_101 rfl ?_
              refine A_iconst d_221_102 (by decide) ?_
              refine A_ne (t := 113) d_221_103 (by decide) ?_ ?_
              · refine A_aload_n d_221_113 rfl ?_
                refine A_getfI rfl d_221_114 kF_6_110 (by decide) (fun v114 => ?_)
                exact A_ireti rfl d_221_117
              · refine A_aload_n d_221_106 rfl ?_
                refine A_getfI rfl d_221_107 kF_6_99 (by decide) (fun v107 => ?_)
                refine A_goto (t := 117) d_221_110 (by decide) ?_
                exact A_ireti rfl d_221_117
            · refine A_aload_n d_221_94 rfl ?_
              refine A_getfI rfl d_221_95 kF_6_96 (by decide) (fun v95 => ?_)
              refine A_goto (t := 117) d_221_98 (by decide) ?_
              exact A_ireti rfl d_221_117
          · refine A_aload_n d_221_78 rfl ?_
            refine A_iconst d_221_79 (by decide) ?_
            refine A_call (t := 196) (way := 0) rfl d_221_80 rfl (cl kI_6_282 rfl) rfl (by decide) rfl (fun q80 => ?_)
            refine A_call (t := 137) (way := 2) rfl d_221_83 rfl (cl kI_6_366 rfl) rfl (by decide) rfl (fun q83 => ?_)
            refine A_goto (t := 117) d_221_86 (by decide) ?_
            exact A_ireti rfl d_221_117
        · refine A_iload_n d_221_69 rfl ?_
          refine A_goto (t := 117) d_221_70 (by decide) ?_
          exact A_ireti rfl d_221_117
      · refine A_aload_n d_221_57 rfl ?_
        refine A_getfI rfl d_221_58 kF_6_93 (by decide) (fun v58 => ?_)
        refine A_goto (t := 117) d_221_61 (by decide) ?_
        exact A_ireti rfl d_221_117
    · refine A_aload_n d_221_45 rfl ?_
      refine A_getfI rfl d_221_46 kF_6_90 (by decide) (fun v46 => ?_)
      refine A_goto (t := 117) d_221_49 (by decide) ?_
      exact A_ireti rfl d_221_117
  · refine A_iload_n d_221_26 rfl ?_
    refine A_aload_n d_221_27 rfl ?_
    refine A_iconst d_221_28 (by decide) ?_
    refine A_iload_n d_221_29 rfl ?_
    refine A_call (t := 160) (way := 0) rfl d_221_30 rfl (cl kI_6_176 rfl) rfl (by decide) rfl (fun q30 => ?_)
    refine A_iadd d_221_33 ?_
    refine A_istore_n d_221_34 rfl ?_
    refine A_iinc d_221_35 (by decide) rfl rfl ?_
    refine A_goto (t := 18) d_221_38 (by decide) ?_
    exact rfl
set_option maxRecDepth 20000 in
theorem q_Md_count (a0 : Nat) (x1 : Int) (h : mH) (ho : isO h a0 6 = true) : F_Md_count a0 x1 h =
  (F_Md_in x1 0 6 h).bind fun q6 =>
  if q6.1 ≠ 0 then
    (B_Md_count_18 a0 x1 0 0 q6.2)
  else
    (some ((-1), q6.2)) := by
  refine (congrArg asI (if_pos ho)).trans ?_
  show asI (Lim 221 0 [some (.inr (.inr a0)), some (.inl x1), none, none] [] h) = _
  refine A_iload_n d_221_0 rfl ?_
  refine A_i2l d_221_1 ?_
  refine A_lconst d_221_2 (x := 0) rfl ?_
  refine A_ldc2 d_221_3 kJ_6_179 ?_
  refine A_call (t := 135) (way := 2) rfl d_221_6 rfl (cl kI_6_106 rfl) rfl (by decide) rfl (fun q6 => ?_)
  refine A_ne0 (t := 14) d_221_9 (by decide) ?_ ?_
  · refine A_iconst d_221_14 (by decide) ?_
    refine A_istore_n d_221_15 rfl ?_
    refine A_iconst d_221_16 (by decide) ?_
    refine A_istore_n d_221_17 rfl ?_
    exact rfl
  · refine A_iconst d_221_12 (by decide) ?_
    exact A_ireti rfl d_221_13

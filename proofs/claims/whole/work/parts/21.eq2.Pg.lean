/-! equations of Pg (by program) -/
set_option maxRecDepth 20000 in
theorem q_Pg_cell (a0 : Nat) (x1 : Int) (h : mH) (ho : isO h a0 2 = true) : F_Pg_cell a0 x1 h =
  if x1 < 0 then
    (some (0, h))
  else
    (if 154 ≤ x1 then
      (some (0, h))
    else
      ((gfd 2 0 h a0).bind fun v12 =>
      (ald 10 h v12.toNat x1).bind fun v16 =>
      some (v16, h))) := by
  refine (congrArg asI (if_pos ho)).trans ?_
  show asI (Lim 48 0 [some (.inr (.inr a0)), some (.inl x1)] [] h) = _
  refine A_iload_n d_48_0 rfl ?_
  refine A_lt0 (t := 20) d_48_1 (by decide) ?_ ?_
  · refine A_iconst d_48_20 (by decide) ?_
    exact A_ireti rfl d_48_21
  · refine A_iload_n d_48_4 rfl ?_
    refine A_sipush d_48_5 (by decide) ?_
    refine A_ge (t := 20) d_48_8 (by decide) ?_ ?_
    · refine A_iconst d_48_20 (by decide) ?_
      exact A_ireti rfl d_48_21
    · refine A_aload_n d_48_11 rfl ?_
      refine A_getfA rfl d_48_12 kF_2_11 (fun v12 => ?_)
      refine A_iload_n d_48_15 rfl ?_
      refine A_iald rfl d_48_16 (fun v16 => ?_)
      refine A_goto (t := 21) d_48_17 (by decide) ?_
      exact A_ireti rfl d_48_21
set_option maxRecDepth 20000 in
theorem q_Pg_setCell (a0 : Nat) (x1 : Int) (x2 : Int) (h : mH) (ho : isO h a0 2 = true) : F_Pg_setCell a0 x1 x2 h =
  if x1 < 0 then
    (some h)
  else
    (if 154 ≤ x1 then
      (some h)
    else
      ((gfd 2 0 h a0).bind fun v12 =>
      (ast h v12.toNat x1 x2).bind fun h17 =>
      some h17)) := by
  refine (congrArg asU (if_pos ho)).trans ?_
  show asU (Lim 49 0 [some (.inr (.inr a0)), some (.inl x1), some (.inl x2)] [] h) = _
  refine A_iload_n d_49_0 rfl ?_
  refine A_lt0 (t := 18) d_49_1 (by decide) ?_ ?_
  · exact A_ret rfl d_49_18
  · refine A_iload_n d_49_4 rfl ?_
    refine A_sipush d_49_5 (by decide) ?_
    refine A_ge (t := 18) d_49_8 (by decide) ?_ ?_
    · exact A_ret rfl d_49_18
    · refine A_aload_n d_49_11 rfl ?_
      refine A_getfA rfl d_49_12 kF_2_11 (fun v12 => ?_)
      refine A_iload_n d_49_15 rfl ?_
      refine A_iload_n d_49_16 rfl ?_
      refine A_iast rfl d_49_17 (fun h17 => ?_)
      exact A_ret rfl d_49_18
set_option maxRecDepth 20000 in
theorem q_Pg_copyFrom (a0 : Nat) (a1 : Nat) (h : mH) (ho : isO h a0 2 = true) : F_Pg_copyFrom a0 a1 h =
  if a1 = 0 then
    (some h)
  else
    ((aln h a1).bind fun v5 =>
    if v5 ≠ 154 then
      (some h)
    else
      ((gfd 2 0 h a0).bind fun v15 =>
      (acp h a1 v15.toNat 154).bind fun h22 =>
      some h22)) := by
  refine (congrArg asU (if_pos ho)).trans ?_
  show asU (Lim 50 0 [some (.inr (.inr a0)), some (.inr (.inr a1))] [] h) = _
  refine A_aload_n d_50_0 rfl ?_
  refine A_null (t := 25) d_50_1 (by decide) ?_ ?_
  · exact A_ret rfl d_50_25
  · refine A_aload_n d_50_4 rfl ?_
    refine A_alen rfl d_50_5 (fun v5 => ?_)
    refine A_sipush d_50_6 (by decide) ?_
    refine A_ne (t := 25) d_50_9 (by decide) ?_ ?_
    · exact A_ret rfl d_50_25
    · refine A_aload_n d_50_12 rfl ?_
      refine A_iconst d_50_13 (by decide) ?_
      refine A_aload_n d_50_14 rfl ?_
      refine A_getfA rfl d_50_15 kF_2_11 (fun v15 => ?_)
      refine A_iconst d_50_18 (by decide) ?_
      refine A_sipush d_50_19 (by decide) ?_
      refine A_acp rfl d_50_22 kI_2_15 (by decide) (fun h22 => ?_)
      exact A_ret rfl d_50_25
set_option maxRecDepth 20000 in
theorem q_Pg_empty_2 (a0 : Nat) (x1 : Int) (h : mH) : B_Pg_empty_2 a0 x1 h =
  if 154 ≤ x1 then
    (some h)
  else
    ((gfd 2 0 h a0).bind fun v10 =>
    (ast h v10.toNat x1 0).bind fun h15 =>
    B_Pg_empty_2 a0 (w32 (x1 + 1)) h15) := by
  unfold B_Pg_empty_2
  refine A_iload_n d_51_2 rfl ?_
  refine A_sipush d_51_3 (by decide) ?_
  refine A_ge (t := 22) d_51_6 (by decide) ?_ ?_
  · exact A_ret rfl d_51_22
  · refine A_aload_n d_51_9 rfl ?_
    refine A_getfA rfl d_51_10 kF_2_11 (fun v10 => ?_)
    refine A_iload_n d_51_13 rfl ?_
    refine A_iconst d_51_14 (by decide) ?_
    refine A_iast rfl d_51_15 (fun h15 => ?_)
    refine A_iinc d_51_16 (by decide) rfl rfl ?_
    refine A_goto (t := 2) d_51_19 (by decide) ?_
    exact rfl
set_option maxRecDepth 20000 in
theorem q_Pg_empty (a0 : Nat) (h : mH) (ho : isO h a0 2 = true) : F_Pg_empty a0 h =
  B_Pg_empty_2 a0 0 h := by
  refine (congrArg asU (if_pos ho)).trans ?_
  show asU (Lim 51 0 [some (.inr (.inr a0)), none] [] h) = _
  refine A_iconst d_51_0 (by decide) ?_
  refine A_istore_n d_51_1 rfl ?_
  exact rfl
set_option maxRecDepth 20000 in
theorem q_Pg_sorts (a0 : Nat) (h : mH) (ho : isO h a0 2 = true) : F_Pg_sorts a0 h =
  (gfd 2 0 h a0).bind fun v1 =>
  (ald 10 h v1.toNat 0).bind fun v5 =>
  some (v5, h) := by
  refine (congrArg asI (if_pos ho)).trans ?_
  show asI (Lim 52 0 [some (.inr (.inr a0))] [] h) = _
  refine A_aload_n d_52_0 rfl ?_
  refine A_getfA rfl d_52_1 kF_2_11 (fun v1 => ?_)
  refine A_iconst d_52_4 (by decide) ?_
  refine A_iald rfl d_52_5 (fun v5 => ?_)
  exact A_ireti rfl d_52_6
set_option maxRecDepth 20000 in
theorem q_Pg_labels (a0 : Nat) (h : mH) (ho : isO h a0 2 = true) : F_Pg_labels a0 h =
  (gfd 2 0 h a0).bind fun v1 =>
  (ald 10 h v1.toNat 1).bind fun v5 =>
  some (v5, h) := by
  refine (congrArg asI (if_pos ho)).trans ?_
  show asI (Lim 53 0 [some (.inr (.inr a0))] [] h) = _
  refine A_aload_n d_53_0 rfl ?_
  refine A_getfA rfl d_53_1 kF_2_11 (fun v1 => ?_)
  refine A_iconst d_53_4 (by decide) ?_
  refine A_iald rfl d_53_5 (fun v5 => ?_)
  exact A_ireti rfl d_53_6
set_option maxRecDepth 20000 in
theorem q_Pg_allLabels (a0 : Nat) (h : mH) (ho : isO h a0 2 = true) : F_Pg_allLabels a0 h =
  (F_Pg_labels a0 h).bind fun q2 =>
  some (w32 ((ishl 1 q2.1) - 1), q2.2) := by
  refine (congrArg asI (if_pos ho)).trans ?_
  show asI (Lim 54 0 [some (.inr (.inr a0))] [] h) = _
  refine A_iconst d_54_0 (by decide) ?_
  refine A_aload_n d_54_1 rfl ?_
  refine A_call (t := 53) (way := 0) rfl d_54_2 rfl (cl kI_2_21 rfl) rfl (by decide) rfl (fun q2 => ?_)
  refine A_ishl d_54_5 ?_
  refine A_iconst d_54_6 (by decide) ?_
  refine A_isub d_54_7 ?_
  exact A_ireti rfl d_54_8
set_option maxRecDepth 20000 in
theorem q_Pg_hasSort (a0 : Nat) (x1 : Int) (h : mH) (ho : isO h a0 2 = true) : F_Pg_hasSort a0 x1 h =
  if x1 < 0 then
    (some (0, h))
  else
    ((F_Pg_sorts a0 h).bind fun q6 =>
    if q6.1 ≤ x1 then
      (some (0, q6.2))
    else
      (some (1, q6.2))) := by
  refine (congrArg asI (if_pos ho)).trans ?_
  show asI (Lim 55 0 [some (.inr (.inr a0)), some (.inl x1)] [] h) = _
  refine A_iload_n d_55_0 rfl ?_
  refine A_lt0 (t := 16) d_55_1 (by decide) ?_ ?_
  · refine A_iconst d_55_16 (by decide) ?_
    exact A_iretz rfl d_55_17 (by decide)
  · refine A_iload_n d_55_4 rfl ?_
    refine A_aload_n d_55_5 rfl ?_
    refine A_call (t := 52) (way := 0) rfl d_55_6 rfl (cl kI_2_25 rfl) rfl (by decide) rfl (fun q6 => ?_)
    refine A_ge (t := 16) d_55_9 (by decide) ?_ ?_
    · refine A_iconst d_55_16 (by decide) ?_
      exact A_iretz rfl d_55_17 (by decide)
    · refine A_iconst d_55_12 (by decide) ?_
      refine A_goto (t := 17) d_55_13 (by decide) ?_
      exact A_iretz rfl d_55_17 (by decide)
set_option maxRecDepth 20000 in
theorem q_Pg_hasLabel (a0 : Nat) (x1 : Int) (h : mH) (ho : isO h a0 2 = true) : F_Pg_hasLabel a0 x1 h =
  if x1 < 0 then
    (some (0, h))
  else
    ((F_Pg_labels a0 h).bind fun q6 =>
    if q6.1 ≤ x1 then
      (some (0, q6.2))
    else
      (some (1, q6.2))) := by
  refine (congrArg asI (if_pos ho)).trans ?_
  show asI (Lim 56 0 [some (.inr (.inr a0)), some (.inl x1)] [] h) = _
  refine A_iload_n d_56_0 rfl ?_
  refine A_lt0 (t := 16) d_56_1 (by decide) ?_ ?_
  · refine A_iconst d_56_16 (by decide) ?_
    exact A_iretz rfl d_56_17 (by decide)
  · refine A_iload_n d_56_4 rfl ?_
    refine A_aload_n d_56_5 rfl ?_
    refine A_call (t := 53) (way := 0) rfl d_56_6 rfl (cl kI_2_21 rfl) rfl (by decide) rfl (fun q6 => ?_)
    refine A_ge (t := 16) d_56_9 (by decide) ?_ ?_
    · refine A_iconst d_56_16 (by decide) ?_
      exact A_iretz rfl d_56_17 (by decide)
    · refine A_iconst d_56_12 (by decide) ?_
      refine A_goto (t := 17) d_56_13 (by decide) ?_
      exact A_iretz rfl d_56_17 (by decide)
set_option maxRecDepth 20000 in
theorem q_Pg_hasInstruction (a0 : Nat) (x1 : Int) (x2 : Int) (h : mH) (ho : isO h a0 2 = true) : F_Pg_hasInstruction a0 x1 x2 h =
  (F_Pg_hasLabel a0 x1 h).bind fun q2 =>
  if q2.1 = 0 then
    (some (0, q2.2))
  else
    (if x2 < 0 then
      (some (0, q2.2))
    else
      ((F_Pg_size a0 x1 q2.2).bind fun q15 =>
      if q15.1 ≤ x2 then
        (some (0, q15.2))
      else
        (some (1, q15.2)))) := by
  refine (congrArg asI (if_pos ho)).trans ?_
  show asI (Lim 57 0 [some (.inr (.inr a0)), some (.inl x1), some (.inl x2)] [] h) = _
  refine A_aload_n d_57_0 rfl ?_
  refine A_iload_n d_57_1 rfl ?_
  refine A_call (t := 56) (way := 0) rfl d_57_2 rfl (cl kI_2_28 rfl) rfl (by decide) rfl (fun q2 => ?_)
  refine A_eq0 (t := 25) d_57_5 (by decide) ?_ ?_
  · refine A_iconst d_57_25 (by decide) ?_
    exact A_iretz rfl d_57_26 (by decide)
  · refine A_iload_n d_57_8 rfl ?_
    refine A_lt0 (t := 25) d_57_9 (by decide) ?_ ?_
    · refine A_iconst d_57_25 (by decide) ?_
      exact A_iretz rfl d_57_26 (by decide)
    · refine A_iload_n d_57_12 rfl ?_
      refine A_aload_n d_57_13 rfl ?_
      refine A_iload_n d_57_14 rfl ?_
      refine A_call (t := 73) (way := 0) rfl d_57_15 rfl (cl kI_2_32 rfl) rfl (by decide) rfl (fun q15 => ?_)
      refine A_ge (t := 25) d_57_18 (by decide) ?_ ?_
      · refine A_iconst d_57_25 (by decide) ?_
        exact A_iretz rfl d_57_26 (by decide)
      · refine A_iconst d_57_21 (by decide) ?_
        refine A_goto (t := 26) d_57_22 (by decide) ?_
        exact A_iretz rfl d_57_26 (by decide)
set_option maxRecDepth 20000 in
theorem q_Pg_hasType (a0 : Nat) (x1 : Int) (h : mH) (ho : isO h a0 2 = true) : F_Pg_hasType a0 x1 h =
  if 2 ≤ x1 then
    (if 6 ≤ x1 then
      ((F_Pg_hasLabel a0 (w32 (x1 - 6)) h).bind fun q36 =>
      rz q36.1 q36.2)
    else
      ((F_Pg_hasSort a0 (w32 (x1 - 2)) h).bind fun q25 =>
      rz q25.1 q25.2))
  else
    (if x1 < 0 then
      (some (0, h))
    else
      (some (1, h))) := by
  refine (congrArg asI (if_pos ho)).trans ?_
  show asI (Lim 58 0 [some (.inr (.inr a0)), some (.inl x1)] [] h) = _
  refine A_iload_n d_58_0 rfl ?_
  refine A_iconst d_58_1 (by decide) ?_
  refine A_ge (t := 15) d_58_2 (by decide) ?_ ?_
  · refine A_iload_n d_58_15 rfl ?_
    refine A_bipush d_58_16 (by decide) ?_
    refine A_ge (t := 31) d_58_18 (by decide) ?_ ?_
    · refine A_aload_n d_58_31 rfl ?_
      refine A_iload_n d_58_32 rfl ?_
      refine A_bipush d_58_33 (by decide) ?_
      refine A_isub d_58_35 ?_
      refine A_call (t := 56) (way := 0) rfl d_58_36 rfl (cl kI_2_28 rfl) rfl (by decide) rfl (fun q36 => ?_)
      exact A_iretb rfl d_58_39
    · refine A_aload_n d_58_21 rfl ?_
      refine A_iload_n d_58_22 rfl ?_
      refine A_iconst d_58_23 (by decide) ?_
      refine A_isub d_58_24 ?_
      refine A_call (t := 55) (way := 0) rfl d_58_25 rfl (cl kI_2_36 rfl) rfl (by decide) rfl (fun q25 => ?_)
      refine A_goto (t := 39) d_58_28 (by decide) ?_
      exact A_iretb rfl d_58_39
  · refine A_iload_n d_58_5 rfl ?_
    refine A_lt0 (t := 13) d_58_6 (by decide) ?_ ?_
    · refine A_iconst d_58_13 (by decide) ?_
      exact A_iretz rfl d_58_14 (by decide)
    · refine A_iconst d_58_9 (by decide) ?_
      refine A_goto (t := 14) d_58_10 (by decide) ?_
      exact A_iretz rfl d_58_14 (by decide)
set_option maxRecDepth 20000 in
theorem q_Pg_fields (a0 : Nat) (x1 : Int) (h : mH) (ho : isO h a0 2 = true) : F_Pg_fields a0 x1 h =
  (F_Pg_cell a0 (w32 (2 + (w32 (x1 * 4)))) h).bind fun q6 =>
  some (q6.1, q6.2) := by
  refine (congrArg asI (if_pos ho)).trans ?_
  show asI (Lim 59 0 [some (.inr (.inr a0)), some (.inl x1)] [] h) = _
  refine A_aload_n d_59_0 rfl ?_
  refine A_iconst d_59_1 (by decide) ?_
  refine A_iload_n d_59_2 rfl ?_
  refine A_iconst d_59_3 (by decide) ?_
  refine A_imul d_59_4 ?_
  refine A_iadd d_59_5 ?_
  refine A_call (t := 48) (way := 0) rfl d_59_6 rfl (cl kI_2_39 rfl) rfl (by decide) rfl (fun q6 => ?_)
  exact A_ireti rfl d_59_9
set_option maxRecDepth 20000 in
theorem q_Pg_fieldType (a0 : Nat) (x1 : Int) (x2 : Int) (h : mH) (ho : isO h a0 2 = true) : F_Pg_fieldType a0 x1 x2 h =
  (F_Pg_cell a0 (w32 ((w32 ((w32 (2 + (w32 (x1 * 4)))) + 1)) + x2)) h).bind fun q10 =>
  some (q10.1, q10.2) := by
  refine (congrArg asI (if_pos ho)).trans ?_
  show asI (Lim 60 0 [some (.inr (.inr a0)), some (.inl x1), some (.inl x2)] [] h) = _
  refine A_aload_n d_60_0 rfl ?_
  refine A_iconst d_60_1 (by decide) ?_
  refine A_iload_n d_60_2 rfl ?_
  refine A_iconst d_60_3 (by decide) ?_
  refine A_imul d_60_4 ?_
  refine A_iadd d_60_5 ?_
  refine A_iconst d_60_6 (by decide) ?_
  refine A_iadd d_60_7 ?_
  refine A_iload_n d_60_8 rfl ?_
  refine A_iadd d_60_9 ?_
  refine A_call (t := 48) (way := 0) rfl d_60_10 rfl (cl kI_2_39 rfl) rfl (by decide) rfl (fun q10 => ?_)
  exact A_ireti rfl d_60_13
set_option maxRecDepth 20000 in
theorem q_Pg_addSort (a0 : Nat) (h : mH) (ho : isO h a0 2 = true) : F_Pg_addSort a0 h =
  (gfd 2 0 h a0).bind fun v1 =>
  (ald 10 h v1.toNat 0).bind fun v6 =>
  (ast h v1.toNat 0 (w32 (v6 + 1))).bind fun h9 =>
  some h9 := by
  refine (congrArg asU (if_pos ho)).trans ?_
  show asU (Lim 61 0 [some (.inr (.inr a0))] [] h) = _
  refine A_aload_n d_61_0 rfl ?_
  refine A_getfA rfl d_61_1 kF_2_11 (fun v1 => ?_)
  refine A_iconst d_61_4 (by decide) ?_
  refine A_dup2 d_61_5 ⟨rfl, rfl⟩ ?_
  refine A_iald rfl d_61_6 (fun v6 => ?_)
  refine A_iconst d_61_7 (by decide) ?_
  refine A_iadd d_61_8 ?_
  refine A_iast rfl d_61_9 (fun h9 => ?_)
  exact A_ret rfl d_61_10
set_option maxRecDepth 20000 in
theorem q_Pg_addField (a0 : Nat) (x1 : Int) (x2 : Int) (h : mH) (ho : isO h a0 2 = true) : F_Pg_addField a0 x1 x2 h =
  (F_Pg_cell a0 (w32 (2 + (w32 (x1 * 4)))) h).bind fun q8 =>
  (F_Pg_setCell a0 (w32 ((w32 ((w32 (2 + (w32 (x1 * 4)))) + 1)) + q8.1)) x2 q8.2).bind fun h21 =>
  (F_Pg_setCell a0 (w32 (2 + (w32 (x1 * 4)))) (w32 (q8.1 + 1)) h21).bind fun h30 =>
  some h30 := by
  refine (congrArg asU (if_pos ho)).trans ?_
  show asU (Lim 62 0 [some (.inr (.inr a0)), some (.inl x1), some (.inl x2), none, none] [] h) = _
  refine A_iconst d_62_0 (by decide) ?_
  refine A_iload_n d_62_1 rfl ?_
  refine A_iconst d_62_2 (by decide) ?_
  refine A_imul d_62_3 ?_
  refine A_iadd d_62_4 ?_
  refine A_istore_n d_62_5 rfl ?_
  refine A_aload_n d_62_6 rfl ?_
  refine A_iload_n d_62_7 rfl ?_
  refine A_call (t := 48) (way := 0) rfl d_62_8 rfl (cl kI_2_39 rfl) rfl (by decide) rfl (fun q8 => ?_)
  refine A_istore d_62_11 rfl ?_
  refine A_aload_n d_62_13 rfl ?_
  refine A_iload_n d_62_14 rfl ?_
  refine A_iconst d_62_15 (by decide) ?_
  refine A_iadd d_62_16 ?_
  refine A_iload d_62_17 rfl ?_
  refine A_iadd d_62_19 ?_
  refine A_iload_n d_62_20 rfl ?_
  refine A_callU (t := 49) (way := 0) rfl d_62_21 rfl (cl kI_2_42 rfl) rfl rfl rfl (fun h21 => ?_)
  refine A_aload_n d_62_24 rfl ?_
  refine A_iload_n d_62_25 rfl ?_
  refine A_iload d_62_26 rfl ?_
  refine A_iconst d_62_28 (by decide) ?_
  refine A_iadd d_62_29 ?_
  refine A_callU (t := 49) (way := 0) rfl d_62_30 rfl (cl kI_2_42 rfl) rfl rfl rfl (fun h30 => ?_)
  exact A_ret rfl d_62_33
set_option maxRecDepth 20000 in
theorem q_Pg_addLabel (a0 : Nat) (h : mH) (ho : isO h a0 2 = true) : F_Pg_addLabel a0 h =
  (gfd 2 0 h a0).bind fun v1 =>
  (ald 10 h v1.toNat 1).bind fun v6 =>
  (ast h v1.toNat 1 (w32 (v6 + 1))).bind fun h9 =>
  some h9 := by
  refine (congrArg asU (if_pos ho)).trans ?_
  show asU (Lim 63 0 [some (.inr (.inr a0))] [] h) = _
  refine A_aload_n d_63_0 rfl ?_
  refine A_getfA rfl d_63_1 kF_2_11 (fun v1 => ?_)
  refine A_iconst d_63_4 (by decide) ?_
  refine A_dup2 d_63_5 ⟨rfl, rfl⟩ ?_
  refine A_iald rfl d_63_6 (fun v6 => ?_)
  refine A_iconst d_63_7 (by decide) ?_
  refine A_iadd d_63_8 ?_
  refine A_iast rfl d_63_9 (fun h9 => ?_)
  exact A_ret rfl d_63_10
set_option maxRecDepth 20000 in
theorem q_Pg_labelCell (a0 : Nat) (x1 : Int) (x2 : Int) (h : mH) (ho : isO h a0 2 = true) : F_Pg_labelCell a0 x1 x2 h =
  if w32 ((w32 (18 + (w32 (x1 * 34)))) + x2) < 0 then
    (some (0, h))
  else
    (if 154 ≤ w32 ((w32 (18 + (w32 (x1 * 34)))) + x2) then
      (some (0, h))
    else
      ((gfd 2 0 h a0).bind fun v22 =>
      (ald 10 h v22.toNat (w32 ((w32 (18 + (w32 (x1 * 34)))) + x2))).bind fun v26 =>
      some (v26, h))) := by
  refine (congrArg asI (if_pos ho)).trans ?_
  show asI (Lim 64 0 [some (.inr (.inr a0)), some (.inl x1), some (.inl x2), none] [] h) = _
  refine A_bipush d_64_0 (by decide) ?_
  refine A_iload_n d_64_2 rfl ?_
  refine A_bipush d_64_3 (by decide) ?_
  refine A_imul d_64_5 ?_
  refine A_iadd d_64_6 ?_
  refine A_iload_n d_64_7 rfl ?_
  refine A_iadd d_64_8 ?_
  refine A_istore_n d_64_9 rfl ?_
  refine A_iload_n d_64_10 rfl ?_
  refine A_lt0 (t := 30) d_64_11 (by decide) ?_ ?_
  · refine A_iconst d_64_30 (by decide) ?_
    exact A_ireti rfl d_64_31
  · refine A_iload_n d_64_14 rfl ?_
    refine A_sipush d_64_15 (by decide) ?_
    refine A_ge (t := 30) d_64_18 (by decide) ?_ ?_
    · refine A_iconst d_64_30 (by decide) ?_
      exact A_ireti rfl d_64_31
    · refine A_aload_n d_64_21 rfl ?_
      refine A_getfA rfl d_64_22 kF_2_11 (fun v22 => ?_)
      refine A_iload_n d_64_25 rfl ?_
      refine A_iald rfl d_64_26 (fun v26 => ?_)
      refine A_goto (t := 31) d_64_27 (by decide) ?_
      exact A_ireti rfl d_64_31
set_option maxRecDepth 20000 in
theorem q_Pg_setLabelCell (a0 : Nat) (x1 : Int) (x2 : Int) (x3 : Int) (h : mH) (ho : isO h a0 2 = true) : F_Pg_setLabelCell a0 x1 x2 x3 h =
  (F_Pg_setCell a0 (w32 ((w32 (18 + (w32 (x1 * 34)))) + x2)) x3 h).bind fun h11 =>
  some h11 := by
  refine (congrArg asU (if_pos ho)).trans ?_
  show asU (Lim 65 0 [some (.inr (.inr a0)), some (.inl x1), some (.inl x2), some (.inl x3)] [] h) = _
  refine A_aload_n d_65_0 rfl ?_
  refine A_bipush d_65_1 (by decide) ?_
  refine A_iload_n d_65_3 rfl ?_
  refine A_bipush d_65_4 (by decide) ?_
  refine A_imul d_65_6 ?_
  refine A_iadd d_65_7 ?_
  refine A_iload_n d_65_8 rfl ?_
  refine A_iadd d_65_9 ?_
  refine A_iload_n d_65_10 rfl ?_
  refine A_callU (t := 49) (way := 0) rfl d_65_11 rfl (cl kI_2_42 rfl) rfl rfl rfl (fun h11 => ?_)
  exact A_ret rfl d_65_14
set_option maxRecDepth 20000 in
theorem q_Pg_wanted (a0 : Nat) (x1 : Int) (x2 : Int) (h : mH) (ho : isO h a0 2 = true) : F_Pg_wanted a0 x1 x2 h =
  (F_Pg_labelCell a0 x1 x2 h).bind fun q3 =>
  some (q3.1, q3.2) := by
  refine (congrArg asI (if_pos ho)).trans ?_
  show asI (Lim 66 0 [some (.inr (.inr a0)), some (.inl x1), some (.inl x2)] [] h) = _
  refine A_aload_n d_66_0 rfl ?_
  refine A_iload_n d_66_1 rfl ?_
  refine A_iload_n d_66_2 rfl ?_
  refine A_call (t := 64) (way := 0) rfl d_66_3 rfl (cl kI_2_46 rfl) rfl (by decide) rfl (fun q3 => ?_)
  exact A_ireti rfl d_66_6
set_option maxRecDepth 20000 in
theorem q_Pg_setWanted (a0 : Nat) (x1 : Int) (x2 : Int) (x3 : Int) (h : mH) (ho : isO h a0 2 = true) : F_Pg_setWanted a0 x1 x2 x3 h =
  (F_Pg_setLabelCell a0 x1 x2 x3 h).bind fun h4 =>
  some h4 := by
  refine (congrArg asU (if_pos ho)).trans ?_
  show asU (Lim 67 0 [some (.inr (.inr a0)), some (.inl x1), some (.inl x2), some (.inl x3)] [] h) = _
  refine A_aload_n d_67_0 rfl ?_
  refine A_iload_n d_67_1 rfl ?_
  refine A_iload_n d_67_2 rfl ?_
  refine A_iload_n d_67_3 rfl ?_
  refine A_callU (t := 65) (way := 0) rfl d_67_4 rfl (cl kI_2_50 rfl) rfl rfl rfl (fun h4 => ?_)
  exact A_ret rfl d_67_7
set_option maxRecDepth 20000 in
theorem q_Pg_wantedHeight (a0 : Nat) (x1 : Int) (h : mH) (ho : isO h a0 2 = true) : F_Pg_wantedHeight a0 x1 h =
  (F_Pg_labelCell a0 x1 4 h).bind fun q3 =>
  some (q3.1, q3.2) := by
  refine (congrArg asI (if_pos ho)).trans ?_
  show asI (Lim 68 0 [some (.inr (.inr a0)), some (.inl x1)] [] h) = _
  refine A_aload_n d_68_0 rfl ?_
  refine A_iload_n d_68_1 rfl ?_
  refine A_iconst d_68_2 (by decide) ?_
  refine A_call (t := 64) (way := 0) rfl d_68_3 rfl (cl kI_2_46 rfl) rfl (by decide) rfl (fun q3 => ?_)
  exact A_ireti rfl d_68_6
set_option maxRecDepth 20000 in
theorem q_Pg_wantedFromTop (a0 : Nat) (x1 : Int) (x2 : Int) (h : mH) (ho : isO h a0 2 = true) : F_Pg_wantedFromTop a0 x1 x2 h =
  (F_Pg_labelCell a0 x1 (w32 (5 + x2)) h).bind fun q5 =>
  some (q5.1, q5.2) := by
  refine (congrArg asI (if_pos ho)).trans ?_
  show asI (Lim 69 0 [some (.inr (.inr a0)), some (.inl x1), some (.inl x2)] [] h) = _
  refine A_aload_n d_69_0 rfl ?_
  refine A_iload_n d_69_1 rfl ?_
  refine A_iconst d_69_2 (by decide) ?_
  refine A_iload_n d_69_3 rfl ?_
  refine A_iadd d_69_4 ?_
  refine A_call (t := 64) (way := 0) rfl d_69_5 rfl (cl kI_2_46 rfl) rfl (by decide) rfl (fun q5 => ?_)
  exact A_ireti rfl d_69_8
set_option maxRecDepth 20000 in
theorem q_Pg_addWantedBelow (a0 : Nat) (x1 : Int) (x2 : Int) (h : mH) (ho : isO h a0 2 = true) : F_Pg_addWantedBelow a0 x1 x2 h =
  (F_Pg_wantedHeight a0 x1 h).bind fun q2 =>
  (F_Pg_setLabelCell a0 x1 (w32 (5 + q2.1)) x2 q2.2).bind fun h12 =>
  (F_Pg_setLabelCell a0 x1 4 (w32 (q2.1 + 1)) h12).bind fun h21 =>
  some h21 := by
  refine (congrArg asU (if_pos ho)).trans ?_
  show asU (Lim 70 0 [some (.inr (.inr a0)), some (.inl x1), some (.inl x2), none] [] h) = _
  refine A_aload_n d_70_0 rfl ?_
  refine A_iload_n d_70_1 rfl ?_
  refine A_call (t := 68) (way := 0) rfl d_70_2 rfl (cl kI_2_54 rfl) rfl (by decide) rfl (fun q2 => ?_)
  refine A_istore_n d_70_5 rfl ?_
  refine A_aload_n d_70_6 rfl ?_
  refine A_iload_n d_70_7 rfl ?_
  refine A_iconst d_70_8 (by decide) ?_
  refine A_iload_n d_70_9 rfl ?_
  refine A_iadd d_70_10 ?_
  refine A_iload_n d_70_11 rfl ?_
  refine A_callU (t := 65) (way := 0) rfl d_70_12 rfl (cl kI_2_50 rfl) rfl rfl rfl (fun h12 => ?_)
  refine A_aload_n d_70_15 rfl ?_
  refine A_iload_n d_70_16 rfl ?_
  refine A_iconst d_70_17 (by decide) ?_
  refine A_iload_n d_70_18 rfl ?_
  refine A_iconst d_70_19 (by decide) ?_
  refine A_iadd d_70_20 ?_
  refine A_callU (t := 65) (way := 0) rfl d_70_21 rfl (cl kI_2_50 rfl) rfl rfl rfl (fun h21 => ?_)
  exact A_ret rfl d_70_24
set_option maxRecDepth 20000 in
theorem q_Pg_openBelow (a0 : Nat) (x1 : Int) (h : mH) (ho : isO h a0 2 = true) : F_Pg_openBelow a0 x1 h =
  (F_Pg_labelCell a0 x1 8 h).bind fun q4 =>
  some (q4.1, q4.2) := by
  refine (congrArg asI (if_pos ho)).trans ?_
  show asI (Lim 71 0 [some (.inr (.inr a0)), some (.inl x1)] [] h) = _
  refine A_aload_n d_71_0 rfl ?_
  refine A_iload_n d_71_1 rfl ?_
  refine A_bipush d_71_2 (by decide) ?_
  refine A_call (t := 64) (way := 0) rfl d_71_4 rfl (cl kI_2_46 rfl) rfl (by decide) rfl (fun q4 => ?_)
  exact A_ireti rfl d_71_7
set_option maxRecDepth 20000 in
theorem q_Pg_setOpenBelow (a0 : Nat) (x1 : Int) (x2 : Int) (h : mH) (ho : isO h a0 2 = true) : F_Pg_setOpenBelow a0 x1 x2 h =
  (F_Pg_setLabelCell a0 x1 8 x2 h).bind fun h5 =>
  some h5 := by
  refine (congrArg asU (if_pos ho)).trans ?_
  show asU (Lim 72 0 [some (.inr (.inr a0)), some (.inl x1), some (.inl x2)] [] h) = _
  refine A_aload_n d_72_0 rfl ?_
  refine A_iload_n d_72_1 rfl ?_
  refine A_bipush d_72_2 (by decide) ?_
  refine A_iload_n d_72_4 rfl ?_
  refine A_callU (t := 65) (way := 0) rfl d_72_5 rfl (cl kI_2_50 rfl) rfl rfl rfl (fun h5 => ?_)
  exact A_ret rfl d_72_8
set_option maxRecDepth 20000 in
theorem q_Pg_size (a0 : Nat) (x1 : Int) (h : mH) (ho : isO h a0 2 = true) : F_Pg_size a0 x1 h =
  (F_Pg_labelCell a0 x1 9 h).bind fun q4 =>
  some (q4.1, q4.2) := by
  refine (congrArg asI (if_pos ho)).trans ?_
  show asI (Lim 73 0 [some (.inr (.inr a0)), some (.inl x1)] [] h) = _
  refine A_aload_n d_73_0 rfl ?_
  refine A_iload_n d_73_1 rfl ?_
  refine A_bipush d_73_2 (by decide) ?_
  refine A_call (t := 64) (way := 0) rfl d_73_4 rfl (cl kI_2_46 rfl) rfl (by decide) rfl (fun q4 => ?_)
  exact A_ireti rfl d_73_7
set_option maxRecDepth 20000 in
theorem q_Pg_part (a0 : Nat) (x1 : Int) (x2 : Int) (x3 : Int) (h : mH) (ho : isO h a0 2 = true) : F_Pg_part a0 x1 x2 x3 h =
  (F_Pg_labelCell a0 x1 (w32 ((w32 (10 + (w32 (x2 * 4)))) + x3)) h).bind fun q10 =>
  some (q10.1, q10.2) := by
  refine (congrArg asI (if_pos ho)).trans ?_
  show asI (Lim 74 0 [some (.inr (.inr a0)), some (.inl x1), some (.inl x2), some (.inl x3)] [] h) = _
  refine A_aload_n d_74_0 rfl ?_
  refine A_iload_n d_74_1 rfl ?_
  refine A_bipush d_74_2 (by decide) ?_
  refine A_iload_n d_74_4 rfl ?_
  refine A_iconst d_74_5 (by decide) ?_
  refine A_imul d_74_6 ?_
  refine A_iadd d_74_7 ?_
  refine A_iload_n d_74_8 rfl ?_
  refine A_iadd d_74_9 ?_
  refine A_call (t := 64) (way := 0) rfl d_74_10 rfl (cl kI_2_46 rfl) rfl (by decide) rfl (fun q10 => ?_)
  exact A_ireti rfl d_74_13
set_option maxRecDepth 20000 in
theorem q_Pg_setInstruction_16 (a0 : Nat) (x1 : Int) (x2 : Int) (x3 : Int) (x4 : Int) (x5 : Int) (x6 : Int) (x7 : Int) (h : mH) : B_Pg_setInstruction_16 a0 x1 x2 x3 x4 x5 x6 x7 h =
  (F_Pg_setCell a0 x7 x3 h).bind fun h20 =>
  (F_Pg_setCell a0 (w32 (x7 + 1)) x4 h20).bind fun h30 =>
  (F_Pg_setCell a0 (w32 (x7 + 2)) x5 h30).bind fun h40 =>
  (F_Pg_setCell a0 (w32 (x7 + 3)) x6 h40).bind fun h50 =>
  some h50 := by
  unfold B_Pg_setInstruction_16
  refine A_aload_n d_75_16 rfl ?_
  refine A_iload d_75_17 rfl ?_
  refine A_iload_n d_75_19 rfl ?_
  refine A_callU (t := 49) (way := 0) rfl d_75_20 rfl (cl kI_2_42 rfl) rfl rfl rfl (fun h20 => ?_)
  refine A_aload_n d_75_23 rfl ?_
  refine A_iload d_75_24 rfl ?_
  refine A_iconst d_75_26 (by decide) ?_
  refine A_iadd d_75_27 ?_
  refine A_iload d_75_28 rfl ?_
  refine A_callU (t := 49) (way := 0) rfl d_75_30 rfl (cl kI_2_42 rfl) rfl rfl rfl (fun h30 => ?_)
  refine A_aload_n d_75_33 rfl ?_
  refine A_iload d_75_34 rfl ?_
  refine A_iconst d_75_36 (by decide) ?_
  refine A_iadd d_75_37 ?_
  refine A_iload d_75_38 rfl ?_
  refine A_callU (t := 49) (way := 0) rfl d_75_40 rfl (cl kI_2_42 rfl) rfl rfl rfl (fun h40 => ?_)
  refine A_aload_n d_75_43 rfl ?_
  refine A_iload d_75_44 rfl ?_
  refine A_iconst d_75_46 (by decide) ?_
  refine A_iadd d_75_47 ?_
  refine A_iload d_75_48 rfl ?_
  refine A_callU (t := 49) (way := 0) rfl d_75_50 rfl (cl kI_2_42 rfl) rfl rfl rfl (fun h50 => ?_)
  exact A_ret rfl d_75_53
set_option maxRecDepth 20000 in
theorem q_Pg_setInstruction (a0 : Nat) (x1 : Int) (x2 : Int) (x3 : Int) (x4 : Int) (x5 : Int) (x6 : Int) (h : mH) (ho : isO h a0 2 = true) : F_Pg_setInstruction a0 x1 x2 x3 x4 x5 x6 h =
  B_Pg_setInstruction_16 a0 x1 x2 x3 x4 x5 x6 (w32 ((w32 ((w32 (18 + (w32 (x1 * 34)))) + 10)) + (w32 (x2 * 4)))) h := by
  refine (congrArg asU (if_pos ho)).trans ?_
  show asU (Lim 75 0 [some (.inr (.inr a0)), some (.inl x1), some (.inl x2), some (.inl x3), some (.inl x4), some (.inl x5), some (.inl x6), none] [] h) = _
  refine A_bipush d_75_0 (by decide) ?_
  refine A_iload_n d_75_2 rfl ?_
  refine A_bipush d_75_3 (by decide) ?_
  refine A_imul d_75_5 ?_
  refine A_iadd d_75_6 ?_
  refine A_bipush d_75_7 (by decide) ?_
  refine A_iadd d_75_9 ?_
  refine A_iload_n d_75_10 rfl ?_
  refine A_iconst d_75_11 (by decide) ?_
  refine A_imul d_75_12 ?_
  refine A_iadd d_75_13 ?_
  refine A_istore d_75_14 rfl ?_
  exact rfl
set_option maxRecDepth 20000 in
theorem q_Pg_makeRoom_9 (a0 : Nat) (x1 : Int) (x2 : Int) (x3 : Int) (x4 : Int) (h : mH) : B_Pg_makeRoom_9 a0 x1 x2 x3 x4 h =
  if x4 ≤ x2 then
    ((F_Pg_setLabelCell a0 x1 9 (w32 (x3 + 1)) h).bind fun h75 =>
    some h75)
  else
    ((F_Pg_part a0 x1 (w32 (x4 - 1)) 0 h).bind fun q26 =>
    (F_Pg_part a0 x1 (w32 (x4 - 1)) 1 q26.2).bind fun q36 =>
    (F_Pg_part a0 x1 (w32 (x4 - 1)) 2 q36.2).bind fun q46 =>
    (F_Pg_part a0 x1 (w32 (x4 - 1)) 3 q46.2).bind fun q56 =>
    (F_Pg_setInstruction a0 x1 x4 q26.1 q36.1 q46.1 q56.1 q56.2).bind fun h59 =>
    B_Pg_makeRoom_9 a0 x1 x2 x3 (w32 (x4 + (-1))) h59) := by
  unfold B_Pg_makeRoom_9
  refine A_iload d_76_9 rfl ?_
  refine A_iload_n d_76_11 rfl ?_
  refine A_le (t := 68) d_76_12 (by decide) ?_ ?_
  · refine A_aload_n d_76_68 rfl ?_
    refine A_iload_n d_76_69 rfl ?_
    refine A_bipush d_76_70 (by decide) ?_
    refine A_iload_n d_76_72 rfl ?_
    refine A_iconst d_76_73 (by decide) ?_
    refine A_iadd d_76_74 ?_
    refine A_callU (t := 65) (way := 0) rfl d_76_75 rfl (cl kI_2_50 rfl) rfl rfl rfl (fun h75 => ?_)
    exact A_ret rfl d_76_78
  · refine A_aload_n d_76_15 rfl ?_
    refine A_iload_n d_76_16 rfl ?_
    refine A_iload d_76_17 rfl ?_
    refine A_aload_n d_76_19 rfl ?_
    refine A_iload_n d_76_20 rfl ?_
    refine A_iload d_76_21 rfl ?_
    refine A_iconst d_76_23 (by decide) ?_
    refine A_isub d_76_24 ?_
    refine A_iconst d_76_25 (by decide) ?_
    refine A_call (t := 74) (way := 0) rfl d_76_26 rfl (cl kI_2_57 rfl) rfl (by decide) rfl (fun q26 => ?_)
    refine A_aload_n d_76_29 rfl ?_
    refine A_iload_n d_76_30 rfl ?_
    refine A_iload d_76_31 rfl ?_
    refine A_iconst d_76_33 (by decide) ?_
    refine A_isub d_76_34 ?_
    refine A_iconst d_76_35 (by decide) ?_
    refine A_call (t := 74) (way := 0) rfl d_76_36 rfl (cl kI_2_57 rfl) rfl (by decide) rfl (fun q36 => ?_)
    refine A_aload_n d_76_39 rfl ?_
    refine A_iload_n d_76_40 rfl ?_
    refine A_iload d_76_41 rfl ?_
    refine A_iconst d_76_43 (by decide) ?_
    refine A_isub d_76_44 ?_
    refine A_iconst d_76_45 (by decide) ?_
    refine A_call (t := 74) (way := 0) rfl d_76_46 rfl (cl kI_2_57 rfl) rfl (by decide) rfl (fun q46 => ?_)
    refine A_aload_n d_76_49 rfl ?_
    refine A_iload_n d_76_50 rfl ?_
    refine A_iload d_76_51 rfl ?_
    refine A_iconst d_76_53 (by decide) ?_
    refine A_isub d_76_54 ?_
    refine A_iconst d_76_55 (by decide) ?_
    refine A_call (t := 74) (way := 0) rfl d_76_56 rfl (cl kI_2_57 rfl) rfl (by decide) rfl (fun q56 => ?_)
    refine A_callU (t := 75) (way := 0) rfl d_76_59 rfl (cl kI_2_61 rfl) rfl rfl rfl (fun h59 => ?_)
    refine A_iinc d_76_62 (by decide) rfl rfl ?_
    refine A_goto (t := 9) d_76_65 (by decide) ?_
    exact rfl
set_option maxRecDepth 20000 in
theorem q_Pg_makeRoom (a0 : Nat) (x1 : Int) (x2 : Int) (h : mH) (ho : isO h a0 2 = true) : F_Pg_makeRoom a0 x1 x2 h =
  (F_Pg_size a0 x1 h).bind fun q2 =>
  B_Pg_makeRoom_9 a0 x1 x2 q2.1 q2.1 q2.2 := by
  refine (congrArg asU (if_pos ho)).trans ?_
  show asU (Lim 76 0 [some (.inr (.inr a0)), some (.inl x1), some (.inl x2), none, none] [] h) = _
  refine A_aload_n d_76_0 rfl ?_
  refine A_iload_n d_76_1 rfl ?_
  refine A_call (t := 73) (way := 0) rfl d_76_2 rfl (cl kI_2_32 rfl) rfl (by decide) rfl (fun q2 => ?_)
  refine A_istore_n d_76_5 rfl ?_
  refine A_iload_n d_76_6 rfl ?_
  refine A_istore d_76_7 rfl ?_
  exact rfl
set_option maxRecDepth 20000 in
theorem q_Pg_takeOut_9 (a0 : Nat) (x1 : Int) (x2 : Int) (x3 : Int) (x4 : Int) (h : mH) : B_Pg_takeOut_9 a0 x1 x2 x3 x4 h =
  if w32 (x3 - 1) ≤ x4 then
    ((F_Pg_setLabelCell a0 x1 9 (w32 (x3 - 1)) h).bind fun h77 =>
    some h77)
  else
    ((F_Pg_part a0 x1 (w32 (x4 + 1)) 0 h).bind fun q28 =>
    (F_Pg_part a0 x1 (w32 (x4 + 1)) 1 q28.2).bind fun q38 =>
    (F_Pg_part a0 x1 (w32 (x4 + 1)) 2 q38.2).bind fun q48 =>
    (F_Pg_part a0 x1 (w32 (x4 + 1)) 3 q48.2).bind fun q58 =>
    (F_Pg_setInstruction a0 x1 x4 q28.1 q38.1 q48.1 q58.1 q58.2).bind fun h61 =>
    B_Pg_takeOut_9 a0 x1 x2 x3 (w32 (x4 + 1)) h61) := by
  unfold B_Pg_takeOut_9
  refine A_iload d_77_9 rfl ?_
  refine A_iload_n d_77_11 rfl ?_
  refine A_iconst d_77_12 (by decide) ?_
  refine A_isub d_77_13 ?_
  refine A_ge (t := 70) d_77_14 (by decide) ?_ ?_
  · refine A_aload_n d_77_70 rfl ?_
    refine A_iload_n d_77_71 rfl ?_
    refine A_bipush d_77_72 (by decide) ?_
    refine A_iload_n d_77_74 rfl ?_
    refine A_iconst d_77_75 (by decide) ?_
    refine A_isub d_77_76 ?_
    refine A_callU (t := 65) (way := 0) rfl d_77_77 rfl (cl kI_2_50 rfl) rfl rfl rfl (fun h77 => ?_)
    exact A_ret rfl d_77_80
  · refine A_aload_n d_77_17 rfl ?_
    refine A_iload_n d_77_18 rfl ?_
    refine A_iload d_77_19 rfl ?_
    refine A_aload_n d_77_21 rfl ?_
    refine A_iload_n d_77_22 rfl ?_
    refine A_iload d_77_23 rfl ?_
    refine A_iconst d_77_25 (by decide) ?_
    refine A_iadd d_77_26 ?_
    refine A_iconst d_77_27 (by decide) ?_
    refine A_call (t := 74) (way := 0) rfl d_77_28 rfl (cl kI_2_57 rfl) rfl (by decide) rfl (fun q28 => ?_)
    refine A_aload_n d_77_31 rfl ?_
    refine A_iload_n d_77_32 rfl ?_
    refine A_iload d_77_33 rfl ?_
    refine A_iconst d_77_35 (by decide) ?_
    refine A_iadd d_77_36 ?_
    refine A_iconst d_77_37 (by decide) ?_
    refine A_call (t := 74) (way := 0) rfl d_77_38 rfl (cl kI_2_57 rfl) rfl (by decide) rfl (fun q38 => ?_)
    refine A_aload_n d_77_41 rfl ?_
    refine A_iload_n d_77_42 rfl ?_
    refine A_iload d_77_43 rfl ?_
    refine A_iconst d_77_45 (by decide) ?_
    refine A_iadd d_77_46 ?_
    refine A_iconst d_77_47 (by decide) ?_
    refine A_call (t := 74) (way := 0) rfl d_77_48 rfl (cl kI_2_57 rfl) rfl (by decide) rfl (fun q48 => ?_)
    refine A_aload_n d_77_51 rfl ?_
    refine A_iload_n d_77_52 rfl ?_
    refine A_iload d_77_53 rfl ?_
    refine A_iconst d_77_55 (by decide) ?_
    refine A_iadd d_77_56 ?_
    refine A_iconst d_77_57 (by decide) ?_
    refine A_call (t := 74) (way := 0) rfl d_77_58 rfl (cl kI_2_57 rfl) rfl (by decide) rfl (fun q58 => ?_)
    refine A_callU (t := 75) (way := 0) rfl d_77_61 rfl (cl kI_2_61 rfl) rfl rfl rfl (fun h61 => ?_)
    refine A_iinc d_77_64 (by decide) rfl rfl ?_
    refine A_goto (t := 9) d_77_67 (by decide) ?_
    exact rfl
set_option maxRecDepth 20000 in
theorem q_Pg_takeOut (a0 : Nat) (x1 : Int) (x2 : Int) (h : mH) (ho : isO h a0 2 = true) : F_Pg_takeOut a0 x1 x2 h =
  (F_Pg_size a0 x1 h).bind fun q2 =>
  B_Pg_takeOut_9 a0 x1 x2 q2.1 x2 q2.2 := by
  refine (congrArg asU (if_pos ho)).trans ?_
  show asU (Lim 77 0 [some (.inr (.inr a0)), some (.inl x1), some (.inl x2), none, none] [] h) = _
  refine A_aload_n d_77_0 rfl ?_
  refine A_iload_n d_77_1 rfl ?_
  refine A_call (t := 73) (way := 0) rfl d_77_2 rfl (cl kI_2_32 rfl) rfl (by decide) rfl (fun q2 => ?_)
  refine A_istore_n d_77_5 rfl ?_
  refine A_iload_n d_77_6 rfl ?_
  refine A_istore d_77_7 rfl ?_
  exact rfl
set_option maxRecDepth 20000 in
theorem q_Pg_instructions_4 (a0 : Nat) (x1 : Int) (x2 : Int) (h : mH) : B_Pg_instructions_4 a0 x1 x2 h =
  (F_Pg_labels a0 h).bind fun q6 =>
  if q6.1 ≤ x2 then
    (some (x1, q6.2))
  else
    ((F_Pg_size a0 x2 q6.2).bind fun q15 =>
    B_Pg_instructions_4 a0 (w32 (x1 + q15.1)) (w32 (x2 + 1)) q15.2) := by
  unfold B_Pg_instructions_4
  refine A_iload_n d_78_4 rfl ?_
  refine A_aload_n d_78_5 rfl ?_
  refine A_call (t := 53) (way := 0) rfl d_78_6 rfl (cl kI_2_21 rfl) rfl (by decide) rfl (fun q6 => ?_)
  refine A_ge (t := 26) d_78_9 (by decide) ?_ ?_
  · refine A_iload_n d_78_26 rfl ?_
    exact A_ireti rfl d_78_27
  · refine A_iload_n d_78_12 rfl ?_
    refine A_aload_n d_78_13 rfl ?_
    refine A_iload_n d_78_14 rfl ?_
    refine A_call (t := 73) (way := 0) rfl d_78_15 rfl (cl kI_2_32 rfl) rfl (by decide) rfl (fun q15 => ?_)
    refine A_iadd d_78_18 ?_
    refine A_istore_n d_78_19 rfl ?_
    refine A_iinc d_78_20 (by decide) rfl rfl ?_
    refine A_goto (t := 4) d_78_23 (by decide) ?_
    exact rfl
set_option maxRecDepth 20000 in
theorem q_Pg_instructions (a0 : Nat) (h : mH) (ho : isO h a0 2 = true) : F_Pg_instructions a0 h =
  B_Pg_instructions_4 a0 0 0 h := by
  refine (congrArg asI (if_pos ho)).trans ?_
  show asI (Lim 78 0 [some (.inr (.inr a0)), none, none] [] h) = _
  refine A_iconst d_78_0 (by decide) ?_
  refine A_istore_n d_78_1 rfl ?_
  refine A_iconst d_78_2 (by decide) ?_
  refine A_istore_n d_78_3 rfl ?_
  exact rfl
set_option maxRecDepth 20000 in
theorem q_Pg_allows (a0 : Nat) (x1 : Int) (x2 : Int) (x3 : Int) (x4 : Int) (h : mH) (ho : isO h a0 2 = true) : F_Pg_allows a0 x1 x2 x3 x4 h =
  (F_Pg_sorts a0 h).bind fun q6 =>
  (F_Pg_labels a0 q6.2).bind fun q10 =>
  (F_Pg_mayBeTold x1 x2 x3 x4 q6.1 q10.1 q10.2).bind fun q13 =>
  rz q13.1 q13.2 := by
  refine (congrArg asI (if_pos ho)).trans ?_
  show asI (Lim 79 0 [some (.inr (.inr a0)), some (.inl x1), some (.inl x2), some (.inl x3), some (.inl x4)] [] h) = _
  refine A_iload_n d_79_0 rfl ?_
  refine A_iload_n d_79_1 rfl ?_
  refine A_iload_n d_79_2 rfl ?_
  refine A_iload d_79_3 rfl ?_
  refine A_aload_n d_79_5 rfl ?_
  refine A_call (t := 52) (way := 0) rfl d_79_6 rfl (cl kI_2_25 rfl) rfl (by decide) rfl (fun q6 => ?_)
  refine A_aload_n d_79_9 rfl ?_
  refine A_call (t := 53) (way := 0) rfl d_79_10 rfl (cl kI_2_21 rfl) rfl (by decide) rfl (fun q10 => ?_)
  refine A_call (t := 80) (way := 2) rfl d_79_13 rfl (cl kI_2_65 rfl) rfl (by decide) rfl (fun q13 => ?_)
  exact A_iretb rfl d_79_16
set_option maxRecDepth 20000 in
theorem q_Pg_mayBeTold (x0 : Int) (x1 : Int) (x2 : Int) (x3 : Int) (x4 : Int) (x5 : Int) (h : mH) : F_Pg_mayBeTold x0 x1 x2 x3 x4 x5 h =
  if x0 < 0 then
    (some (0, h))
  else
    (if x0 < 14 then
      (if x1 < 0 then
        (some (0, h))
      else
        ((F_Pg_choices (w32 (x0 * 3)) x4 x5 h).bind fun q24 =>
        if q24.1 ≤ x1 then
          (some (0, q24.2))
        else
          (if x2 < 0 then
            (some (0, q24.2))
          else
            ((F_Pg_choices (w32 ((w32 (x0 * 3)) + 1)) x4 x5 q24.2).bind fun q44 =>
            if q44.1 ≤ x2 then
              (some (0, q44.2))
            else
              (if x3 < 0 then
                (some (0, q44.2))
              else
                ((F_Pg_choices (w32 ((w32 (x0 * 3)) + 2)) x4 x5 q44.2).bind fun q64 =>
                if q64.1 ≤ x3 then
                  (some (0, q64.2))
                else
                  (some (1, q64.2))))))))
    else
      (some (0, h))) := by
  refine (congrArg asI (if_pos rfl)).trans ?_
  show asI (Lim 80 0 [some (.inl x0), some (.inl x1), some (.inl x2), some (.inl x3), some (.inl x4), some (.inl x5)] [] h) = _
  refine A_iload_n d_80_0 rfl ?_
  refine A_lt0 (t := 10) d_80_1 (by decide) ?_ ?_
  · refine A_iconst d_80_10 (by decide) ?_
    exact A_iretz rfl d_80_11 (by decide)
  · refine A_iload_n d_80_4 rfl ?_
    refine A_bipush d_80_5 (by decide) ?_
    refine A_lt (t := 12) d_80_7 (by decide) ?_ ?_
    · refine A_iload_n d_80_12 rfl ?_
      refine A_lt0 (t := 74) d_80_13 (by decide) ?_ ?_
      · refine A_iconst d_80_74 (by decide) ?_
        exact A_iretz rfl d_80_75 (by decide)
      · refine A_iload_n d_80_16 rfl ?_
        refine A_iload_n d_80_17 rfl ?_
        refine A_iconst d_80_18 (by decide) ?_
        refine A_imul d_80_19 ?_
        refine A_iload d_80_20 rfl ?_
        refine A_iload d_80_22 rfl ?_
        refine A_call (t := 81) (way := 2) rfl d_80_24 rfl (cl kI_2_69 rfl) rfl (by decide) rfl (fun q24 => ?_)
        refine A_ge (t := 74) d_80_27 (by decide) ?_ ?_
        · refine A_iconst d_80_74 (by decide) ?_
          exact A_iretz rfl d_80_75 (by decide)
        · refine A_iload_n d_80_30 rfl ?_
          refine A_lt0 (t := 74) d_80_31 (by decide) ?_ ?_
          · refine A_iconst d_80_74 (by decide) ?_
            exact A_iretz rfl d_80_75 (by decide)
          · refine A_iload_n d_80_34 rfl ?_
            refine A_iload_n d_80_35 rfl ?_
            refine A_iconst d_80_36 (by decide) ?_
            refine A_imul d_80_37 ?_
            refine A_iconst d_80_38 (by decide) ?_
            refine A_iadd d_80_39 ?_
            refine A_iload d_80_40 rfl ?_
            refine A_iload d_80_42 rfl ?_
            refine A_call (t := 81) (way := 2) rfl d_80_44 rfl (cl kI_2_69 rfl) rfl (by decide) rfl (fun q44 => ?_)
            refine A_ge (t := 74) d_80_47 (by decide) ?_ ?_
            · refine A_iconst d_80_74 (by decide) ?_
              exact A_iretz rfl d_80_75 (by decide)
            · refine A_iload_n d_80_50 rfl ?_
              refine A_lt0 (t := 74) d_80_51 (by decide) ?_ ?_
              · refine A_iconst d_80_74 (by decide) ?_
                exact A_iretz rfl d_80_75 (by decide)
              · refine A_iload_n d_80_54 rfl ?_
                refine A_iload_n d_80_55 rfl ?_
                refine A_iconst d_80_56 (by decide) ?_
                refine A_imul d_80_57 ?_
                refine A_iconst d_80_58 (by decide) ?_
                refine A_iadd d_80_59 ?_
                refine A_iload d_80_60 rfl ?_
                refine A_iload d_80_62 rfl ?_
                refine A_call (t := 81) (way := 2) rfl d_80_64 rfl (cl kI_2_69 rfl) rfl (by decide) rfl (fun q64 => ?_)
                refine A_ge (t := 74) d_80_67 (by decide) ?_ ?_
                · refine A_iconst d_80_74 (by decide) ?_
                  exact A_iretz rfl d_80_75 (by decide)
                · refine A_iconst d_80_70 (by decide) ?_
                  refine A_goto (t := 75) d_80_71 (by decide) ?_
                  exact A_iretz rfl d_80_75 (by decide)
    · refine A_iconst d_80_10 (by decide) ?_
      exact A_iretz rfl d_80_11 (by decide)
set_option maxRecDepth 20000 in
theorem q_Pg_choices (x0 : Int) (x1 : Int) (x2 : Int) (h : mH) : F_Pg_choices x0 x1 x2 h =
  if x0 < 0 then
    (some (0, h))
  else
    ((aln h 2).bind fun v8 =>
    if x0 < v8 then
      ((ald 10 h 2 x0).bind fun v18 =>
      if v18 = 1 then
        (some (4, h))
      else if v18 = 2 then
        (some (100, h))
      else if v18 = 3 then
        (some (x1, h))
      else if v18 = 4 then
        (some (3, h))
      else if v18 = 5 then
        (some (x2, h))
      else (some (1, h)))
    else
      (some (0, h))) := by
  refine (congrArg asI (if_pos rfl)).trans ?_
  show asI (Lim 81 0 [some (.inl x0), some (.inl x1), some (.inl x2)] [] h) = _
  refine A_iload_n d_81_0 rfl ?_
  refine A_lt0 (t := 12) d_81_1 (by decide) ?_ ?_
  · refine A_iconst d_81_12 (by decide) ?_
    exact A_ireti rfl d_81_13
  · refine A_iload_n d_81_4 rfl ?_
    refine A_gets d_81_5 kS_2_72 ?_
    refine A_alen rfl d_81_8 (fun v8 => ?_)
    refine A_lt (t := 14) d_81_9 (by decide) ?_ ?_
    · refine A_gets d_81_14 kS_2_72 ?_
      refine A_iload_n d_81_17 rfl ?_
      refine A_iald rfl d_81_18 (fun v18 => ?_)
      refine A_if (fun e19_0 => ?_) (fun e19_0 => ?_)
      · refine A_tab (t := 52) d_81_19 (by rw [e19_0]; decide) ?_
        refine A_iconst d_81_52 (by decide) ?_
        exact A_ireti rfl d_81_53
      refine A_if (fun e19_1 => ?_) (fun e19_1 => ?_)
      · refine A_tab (t := 54) d_81_19 (by rw [e19_1]; decide) ?_
        refine A_bipush d_81_54 (by decide) ?_
        exact A_ireti rfl d_81_56
      refine A_if (fun e19_2 => ?_) (fun e19_2 => ?_)
      · refine A_tab (t := 57) d_81_19 (by rw [e19_2]; decide) ?_
        refine A_iload_n d_81_57 rfl ?_
        exact A_ireti rfl d_81_58
      refine A_if (fun e19_3 => ?_) (fun e19_3 => ?_)
      · refine A_tab (t := 59) d_81_19 (by rw [e19_3]; decide) ?_
        refine A_iconst d_81_59 (by decide) ?_
        exact A_ireti rfl d_81_60
      refine A_if (fun e19_4 => ?_) (fun e19_4 => ?_)
      · refine A_tab (t := 61) d_81_19 (by rw [e19_4]; decide) ?_
        refine A_iload_n d_81_61 rfl ?_
        exact A_ireti rfl d_81_62
      refine A_tab (t := 63) d_81_19 (by rw [if_pos (by omega)]; decide) ?_
      refine A_iconst d_81_63 (by decide) ?_
      exact A_ireti rfl d_81_64
    · refine A_iconst d_81_12 (by decide) ?_
      exact A_ireti rfl d_81_13
set_option maxRecDepth 20000 in
theorem q_Pg_isTarget (x0 : Int) (x1 : Int) (h : mH) : F_Pg_isTarget x0 x1 h =
  if w32 ((w32 ((w32 (x0 * 3)) + x1)) - 1) < 0 then
    (some (0, h))
  else
    ((aln h 2).bind fun v16 =>
    if v16 ≤ w32 ((w32 ((w32 (x0 * 3)) + x1)) - 1) then
      (some (0, h))
    else
      ((ald 10 h 2 (w32 ((w32 ((w32 (x0 * 3)) + x1)) - 1))).bind fun v24 =>
      if v24 ≠ 5 then
        (some (0, h))
      else
        (some (1, h)))) := by
  refine (congrArg asI (if_pos rfl)).trans ?_
  show asI (Lim 82 0 [some (.inl x0), some (.inl x1), none] [] h) = _
  refine A_iload_n d_82_0 rfl ?_
  refine A_iconst d_82_1 (by decide) ?_
  refine A_imul d_82_2 ?_
  refine A_iload_n d_82_3 rfl ?_
  refine A_iadd d_82_4 ?_
  refine A_iconst d_82_5 (by decide) ?_
  refine A_isub d_82_6 ?_
  refine A_istore_n d_82_7 rfl ?_
  refine A_iload_n d_82_8 rfl ?_
  refine A_lt0 (t := 33) d_82_9 (by decide) ?_ ?_
  · refine A_iconst d_82_33 (by decide) ?_
    exact A_iretz rfl d_82_34 (by decide)
  · refine A_iload_n d_82_12 rfl ?_
    refine A_gets d_82_13 kS_2_72 ?_
    refine A_alen rfl d_82_16 (fun v16 => ?_)
    refine A_ge (t := 33) d_82_17 (by decide) ?_ ?_
    · refine A_iconst d_82_33 (by decide) ?_
      exact A_iretz rfl d_82_34 (by decide)
    · refine A_gets d_82_20 kS_2_72 ?_
      refine A_iload_n d_82_23 rfl ?_
      refine A_iald rfl d_82_24 (fun v24 => ?_)
      refine A_iconst d_82_25 (by decide) ?_
      refine A_ne (t := 33) d_82_26 (by decide) ?_ ?_
      · refine A_iconst d_82_33 (by decide) ?_
        exact A_iretz rfl d_82_34 (by decide)
      · refine A_iconst d_82_29 (by decide) ?_
        refine A_goto (t := 34) d_82_30 (by decide) ?_
        exact A_iretz rfl d_82_34 (by decide)
set_option maxRecDepth 20000 in
theorem q_Pg_targets_4 (a0 : Nat) (x1 : Int) (x2 : Int) (x3 : Int) (o4 : Option mV) (h : mH) : B_Pg_targets_4 a0 x1 x2 x3 o4 h =
  (F_Pg_size a0 x1 h).bind fun q7 =>
  if q7.1 ≤ x3 then
    (some (x2, q7.2))
  else
    (B_Pg_targets_16 a0 x1 x2 x3 1 q7.2) := by
  unfold B_Pg_targets_4
  refine A_iload_n d_83_4 rfl ?_
  refine A_aload_n d_83_5 rfl ?_
  refine A_iload_n d_83_6 rfl ?_
  refine A_call (t := 73) (way := 0) rfl d_83_7 rfl (cl kI_2_32 rfl) rfl (by decide) rfl (fun q7 => ?_)
  refine A_ge (t := 62) d_83_10 (by decide) ?_ ?_
  · refine A_iload_n d_83_62 rfl ?_
    exact A_ireti rfl d_83_63
  · refine A_iconst d_83_13 (by decide) ?_
    refine A_istore d_83_14 rfl ?_
    exact rfl
set_option maxRecDepth 20000 in
theorem q_Pg_targets_16 (a0 : Nat) (x1 : Int) (x2 : Int) (x3 : Int) (x4 : Int) (h : mH) : B_Pg_targets_16 a0 x1 x2 x3 x4 h =
  if 4 ≤ x4 then
    (B_Pg_targets_4 a0 x1 x2 (w32 (x3 + 1)) (some (.inl x4)) h)
  else
    ((F_Pg_part a0 x1 x3 0 h).bind fun q26 =>
    (F_Pg_isTarget q26.1 x4 q26.2).bind fun q31 =>
    if q31.1 = 0 then
      (B_Pg_targets_50 a0 x1 x2 x3 x4 q31.2)
    else
      ((F_Pg_part a0 x1 x3 x4 q31.2).bind fun q44 =>
      B_Pg_targets_50 a0 x1 (ior x2 (ishl 1 q44.1)) x3 x4 q44.2)) := by
  unfold B_Pg_targets_16
  refine A_iload d_83_16 rfl ?_
  refine A_iconst d_83_18 (by decide) ?_
  refine A_ge (t := 56) d_83_19 (by decide) ?_ ?_
  · refine A_iinc d_83_56 (by decide) rfl rfl ?_
    refine A_goto (t := 4) d_83_59 (by decide) ?_
    exact rfl
  · refine A_aload_n d_83_22 rfl ?_
    refine A_iload_n d_83_23 rfl ?_
    refine A_iload_n d_83_24 rfl ?_
    refine A_iconst d_83_25 (by decide) ?_
    refine A_call (t := 74) (way := 0) rfl d_83_26 rfl (cl kI_2_57 rfl) rfl (by decide) rfl (fun q26 => ?_)
    refine A_iload d_83_29 rfl ?_
    refine A_call (t := 82) (way := 2) rfl d_83_31 rfl (cl kI_2_75 rfl) rfl (by decide) rfl (fun q31 => ?_)
    refine A_eq0 (t := 50) d_83_34 (by decide) ?_ ?_
    · exact rfl
    · refine A_iload_n d_83_37 rfl ?_
      refine A_iconst d_83_38 (by decide) ?_
      refine A_aload_n d_83_39 rfl ?_
      refine A_iload_n d_83_40 rfl ?_
      refine A_iload_n d_83_41 rfl ?_
      refine A_iload d_83_42 rfl ?_
      refine A_call (t := 74) (way := 0) rfl d_83_44 rfl (cl kI_2_57 rfl) rfl (by decide) rfl (fun q44 => ?_)
      refine A_ishl d_83_47 ?_
      refine A_ior d_83_48 ?_
      refine A_istore_n d_83_49 rfl ?_
      exact rfl
set_option maxRecDepth 20000 in
theorem q_Pg_targets_50 (a0 : Nat) (x1 : Int) (x2 : Int) (x3 : Int) (x4 : Int) (h : mH) : B_Pg_targets_50 a0 x1 x2 x3 x4 h =
  B_Pg_targets_16 a0 x1 x2 x3 (w32 (x4 + 1)) h := by
  unfold B_Pg_targets_50
  refine A_iinc d_83_50 (by decide) rfl rfl ?_
  refine A_goto (t := 16) d_83_53 (by decide) ?_
  exact rfl
set_option maxRecDepth 20000 in
theorem q_Pg_targets (a0 : Nat) (x1 : Int) (h : mH) (ho : isO h a0 2 = true) : F_Pg_targets a0 x1 h =
  B_Pg_targets_4 a0 x1 0 0 none h := by
  refine (congrArg asI (if_pos ho)).trans ?_
  show asI (Lim 83 0 [some (.inr (.inr a0)), some (.inl x1), none, none, none] [] h) = _
  refine A_iconst d_83_0 (by decide) ?_
  refine A_istore_n d_83_1 rfl ?_
  refine A_iconst d_83_2 (by decide) ?_
  refine A_istore_n d_83_3 rfl ?_
  exact rfl
set_option maxRecDepth 20000 in
theorem q_Pg_wantedCode_4 (a0 : Nat) (x1 : Int) (x2 : Int) (x3 : Int) (h : mH) : B_Pg_wantedCode_4 a0 x1 x2 x3 h =
  if 4 ≤ x3 then
    (B_Pg_wantedCode_29 a0 x1 x2 0 h)
  else
    ((F_Pg_wanted a0 x1 x3 h).bind fun q13 =>
    (F_Pg_codeBit q13.1 q13.2).bind fun q16 =>
    B_Pg_wantedCode_4 a0 x1 (ior x2 q16.1) (w32 (x3 + 1)) q16.2) := by
  unfold B_Pg_wantedCode_4
  refine A_iload_n d_84_4 rfl ?_
  refine A_iconst d_84_5 (by decide) ?_
  refine A_ge (t := 27) d_84_6 (by decide) ?_ ?_
  · refine A_iconst d_84_27 (by decide) ?_
    refine A_istore_n d_84_28 rfl ?_
    exact rfl
  · refine A_iload_n d_84_9 rfl ?_
    refine A_aload_n d_84_10 rfl ?_
    refine A_iload_n d_84_11 rfl ?_
    refine A_iload_n d_84_12 rfl ?_
    refine A_call (t := 66) (way := 0) rfl d_84_13 rfl (cl kI_2_79 rfl) rfl (by decide) rfl (fun q13 => ?_)
    refine A_call (t := 85) (way := 2) rfl d_84_16 rfl (cl kI_2_82 rfl) rfl (by decide) rfl (fun q16 => ?_)
    refine A_ior d_84_19 ?_
    refine A_istore_n d_84_20 rfl ?_
    refine A_iinc d_84_21 (by decide) rfl rfl ?_
    refine A_goto (t := 4) d_84_24 (by decide) ?_
    exact rfl
set_option maxRecDepth 20000 in
theorem q_Pg_wantedCode_29 (a0 : Nat) (x1 : Int) (x2 : Int) (x3 : Int) (h : mH) : B_Pg_wantedCode_29 a0 x1 x2 x3 h =
  (F_Pg_wantedHeight a0 x1 h).bind fun q32 =>
  if q32.1 ≤ x3 then
    (some (x2, q32.2))
  else
    ((F_Pg_wantedFromTop a0 x1 x3 q32.2).bind fun q42 =>
    (F_Pg_codeBit q42.1 q42.2).bind fun q45 =>
    B_Pg_wantedCode_29 a0 x1 (ior x2 q45.1) (w32 (x3 + 1)) q45.2) := by
  unfold B_Pg_wantedCode_29
  refine A_iload_n d_84_29 rfl ?_
  refine A_aload_n d_84_30 rfl ?_
  refine A_iload_n d_84_31 rfl ?_
  refine A_call (t := 68) (way := 0) rfl d_84_32 rfl (cl kI_2_54 rfl) rfl (by decide) rfl (fun q32 => ?_)
  refine A_ge (t := 56) d_84_35 (by decide) ?_ ?_
  · refine A_iload_n d_84_56 rfl ?_
    exact A_ireti rfl d_84_57
  · refine A_iload_n d_84_38 rfl ?_
    refine A_aload_n d_84_39 rfl ?_
    refine A_iload_n d_84_40 rfl ?_
    refine A_iload_n d_84_41 rfl ?_
    refine A_call (t := 69) (way := 0) rfl d_84_42 rfl (cl kI_2_85 rfl) rfl (by decide) rfl (fun q42 => ?_)
    refine A_call (t := 85) (way := 2) rfl d_84_45 rfl (cl kI_2_82 rfl) rfl (by decide) rfl (fun q45 => ?_)
    refine A_ior d_84_48 ?_
    refine A_istore_n d_84_49 rfl ?_
    refine A_iinc d_84_50 (by decide) rfl rfl ?_
    refine A_goto (t := 29) d_84_53 (by decide) ?_
    exact rfl
set_option maxRecDepth 20000 in
theorem q_Pg_wantedCode (a0 : Nat) (x1 : Int) (h : mH) (ho : isO h a0 2 = true) : F_Pg_wantedCode a0 x1 h =
  B_Pg_wantedCode_4 a0 x1 0 0 h := by
  refine (congrArg asI (if_pos ho)).trans ?_
  show asI (Lim 84 0 [some (.inr (.inr a0)), some (.inl x1), none, none] [] h) = _
  refine A_iconst d_84_0 (by decide) ?_
  refine A_istore_n d_84_1 rfl ?_
  refine A_iconst d_84_2 (by decide) ?_
  refine A_istore_n d_84_3 rfl ?_
  exact rfl
set_option maxRecDepth 20000 in
theorem q_Pg_codeBit (x0 : Int) (h : mH) : F_Pg_codeBit x0 h =
  if x0 < 6 then
    (some (0, h))
  else
    (if 10 ≤ x0 then
      (some (0, h))
    else
      (some (ishl 1 (w32 (x0 - 6)), h))) := by
  refine (congrArg asI (if_pos rfl)).trans ?_
  show asI (Lim 85 0 [some (.inl x0)] [] h) = _
  refine A_iload_n d_85_0 rfl ?_
  refine A_bipush d_85_1 (by decide) ?_
  refine A_lt (t := 21) d_85_3 (by decide) ?_ ?_
  · refine A_iconst d_85_21 (by decide) ?_
    exact A_ireti rfl d_85_22
  · refine A_iload_n d_85_6 rfl ?_
    refine A_bipush d_85_7 (by decide) ?_
    refine A_ge (t := 21) d_85_9 (by decide) ?_ ?_
    · refine A_iconst d_85_21 (by decide) ?_
      exact A_ireti rfl d_85_22
    · refine A_iconst d_85_12 (by decide) ?_
      refine A_iload_n d_85_13 rfl ?_
      refine A_bipush d_85_14 (by decide) ?_
      refine A_isub d_85_16 ?_
      refine A_ishl d_85_17 ?_
      refine A_goto (t := 22) d_85_18 (by decide) ?_
      exact A_ireti rfl d_85_22

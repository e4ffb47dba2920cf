/-! equations of Sh (by program) -/
set_option maxRecDepth 20000 in
theorem q_Sh_clear (a0 : Nat) (h : mH) (ho : isO h a0 3 = true) : F_Sh_clear a0 h =
  (pfd 3 2 h a0 0).bind fun h2 =>
  some h2 := by
  refine (congrArg asU (if_pos ho)).trans ?_
  show asU (Lim 87 0 [some (.inr (.inr a0))] [] h) = _
  refine A_aload_n d_87_0 rfl ?_
  refine A_iconst d_87_1 (by decide) ?_
  refine A_putfI rfl d_87_2 kF_3_16 rfl (fun h2 => ?_)
  exact A_ret rfl d_87_5
set_option maxRecDepth 20000 in
theorem q_Sh_hold_75 (a0 : Nat) (a1 : Nat) (s0 : Int) (sa1 : Nat) (h : mH) : B_Sh_hold_75 a0 a1 s0 sa1 h =
  (pfd 3 1 h sa1 s0).bind fun h75 =>
  (gfd 3 2 h75 a0).bind fun v79 =>
  (gfd 3 0 h75 a0).bind fun v83 =>
  (aln h75 v83.toNat).bind fun v86 =>
  if v86 ≤ v79 then
    (some h75)
  else
    ((gfd 3 2 h75 a0).bind fun v92 =>
    (pfd 3 2 h75 a0 (w32 (v92 + 1))).bind fun h97 =>
    some h97) := by
  unfold B_Sh_hold_75
  refine A_putfI rfl d_88_75 kF_3_20 rfl (fun h75 => ?_)
  refine A_aload_n d_88_78 rfl ?_
  refine A_getfI rfl d_88_79 kF_3_16 (by decide) (fun v79 => ?_)
  refine A_aload_n d_88_82 rfl ?_
  refine A_getfA rfl d_88_83 kF_3_11 (fun v83 => ?_)
  refine A_alen rfl d_88_86 (fun v86 => ?_)
  refine A_ge (t := 100) d_88_87 (by decide) ?_ ?_
  · exact A_ret rfl d_88_100
  · refine A_aload_n d_88_90 rfl ?_
    refine A_dup d_88_91 rfl ?_
    refine A_getfI rfl d_88_92 kF_3_16 (by decide) (fun v92 => ?_)
    refine A_iconst d_88_95 (by decide) ?_
    refine A_iadd d_88_96 ?_
    refine A_putfI rfl d_88_97 kF_3_16 rfl (fun h97 => ?_)
    exact A_ret rfl d_88_100
set_option maxRecDepth 20000 in
theorem q_Sh_hold (a0 : Nat) (a1 : Nat) (h : mH) (ho : isO h a0 3 = true) : F_Sh_hold a0 a1 h =
  (gfd 3 1 h a0).bind fun v1 =>
  if v1 < 0 then
    (some h)
  else
    ((gfd 3 1 h a0).bind fun v8 =>
    (gfd 3 0 h a0).bind fun v12 =>
    (aln h v12.toNat).bind fun v15 =>
    if v15 ≤ v8 then
      (some h)
    else
      (if a1 = 0 then
        (some h)
      else
        ((aln h a1).bind fun v24 =>
        if v24 = 154 then
          ((gfd 3 0 h a0).bind fun v35 =>
          (gfd 3 1 h a0).bind fun v39 =>
          (ald 13 h v35.toNat v39).bind fun v42 =>
          (acp h a1 v42.toNat 154).bind fun h47 =>
          (gfd 3 1 h47 a0).bind fun v52 =>
          (gfd 3 0 h47 a0).bind fun v58 =>
          (aln h47 v58.toNat).bind fun v61 =>
          if v61 ≤ w32 (v52 + 1) then
            (B_Sh_hold_75 a0 a1 0 a0 h47)
          else
            ((gfd 3 1 h47 a0).bind fun v66 =>
            B_Sh_hold_75 a0 a1 (w32 (v66 + 1)) a0 h47))
        else
          (some h)))) := by
  refine (congrArg asU (if_pos ho)).trans ?_
  show asU (Lim 88 0 [some (.inr (.inr a0)), some (.inr (.inr a1))] [] h) = _
  refine A_aload_n d_88_0 rfl ?_
  refine A_getfI rfl d_88_1 kF_3_20 (by decide) (fun v1 => ?_)
  refine A_lt0 (t := 31) d_88_4 (by decide) ?_ ?_
  · exact A_ret rfl d_88_31
  · refine A_aload_n d_88_7 rfl ?_
    refine A_getfI rfl d_88_8 kF_3_20 (by decide) (fun v8 => ?_)
    refine A_aload_n d_88_11 rfl ?_
    refine A_getfA rfl d_88_12 kF_3_11 (fun v12 => ?_)
    refine A_alen rfl d_88_15 (fun v15 => ?_)
    refine A_ge (t := 31) d_88_16 (by decide) ?_ ?_
    · exact A_ret rfl d_88_31
    · refine A_aload_n d_88_19 rfl ?_
      refine A_null (t := 31) d_88_20 (by decide) ?_ ?_
      · exact A_ret rfl d_88_31
      · refine A_aload_n d_88_23 rfl ?_
        refine A_alen rfl d_88_24 (fun v24 => ?_)
        refine A_sipush d_88_25 (by decide) ?_
        refine A_eq (t := 32) d_88_28 (by decide) ?_ ?_
        · refine A_aload_n d_88_32 rfl ?_
          refine A_iconst d_88_33 (by decide) ?_
          refine A_aload_n d_88_34 rfl ?_
          refine A_getfA rfl d_88_35 kF_3_11 (fun v35 => ?_)
          refine A_aload_n d_88_38 rfl ?_
          refine A_getfI rfl d_88_39 kF_3_20 (by decide) (fun v39 => ?_)
          refine A_aald rfl d_88_42 (fun v42 => ?_)
          refine A_iconst d_88_43 (by decide) ?_
          refine A_sipush d_88_44 (by decide) ?_
          refine A_acp rfl d_88_47 kI_3_23 (by decide) (fun h47 => ?_)
          refine A_aload_n d_88_50 rfl ?_
          refine A_aload_n d_88_51 rfl ?_
          refine A_getfI rfl d_88_52 kF_3_20 (by decide) (fun v52 => ?_)
          refine A_iconst d_88_55 (by decide) ?_
          refine A_iadd d_88_56 ?_
          refine A_aload_n d_88_57 rfl ?_
          refine A_getfA rfl d_88_58 kF_3_11 (fun v58 => ?_)
          refine A_alen rfl d_88_61 (fun v61 => ?_)
          refine A_ge (t := 74) d_88_62 (by decide) ?_ ?_
          · refine A_iconst d_88_74 (by decide) ?_
            exact rfl
          · refine A_aload_n d_88_65 rfl ?_
            refine A_getfI rfl d_88_66 kF_3_20 (by decide) (fun v66 => ?_)
            refine A_iconst d_88_69 (by decide) ?_
            refine A_iadd d_88_70 ?_
            refine A_goto (t := 75) d_88_71 (by decide) ?_
            exact rfl
        · exact A_ret rfl d_88_31
set_option maxRecDepth 20000 in
theorem q_Sh_giveBack_23 (a0 : Nat) (a1 : Nat) (s0 : Int) (h : mH) : B_Sh_giveBack_23 a0 a1 s0 h =
  (gfd 3 2 h a0).bind fun v25 =>
  if v25 ≤ 0 then
    (some h)
  else
    (if s0 < 0 then
      (some h)
    else
      ((gfd 3 0 h a0).bind fun v37 =>
      (aln h v37.toNat).bind fun v40 =>
      if v40 ≤ s0 then
        (some h)
      else
        (if a1 ≠ 0 then
          ((gfd 3 0 h a0).bind fun v51 =>
          (ald 13 h v51.toNat s0).bind fun v55 =>
          (F_Pg_copyFrom a1 v55.toNat h).bind fun h56 =>
          (pfd 3 1 h56 a0 s0).bind fun h61 =>
          (gfd 3 2 h61 a0).bind fun v66 =>
          (pfd 3 2 h61 a0 (w32 (v66 - 1))).bind fun h71 =>
          some h71)
        else
          (some h)))) := by
  unfold B_Sh_giveBack_23
  refine A_istore_n d_89_23 rfl ?_
  refine A_aload_n d_89_24 rfl ?_
  refine A_getfI rfl d_89_25 kF_3_16 (by decide) (fun v25 => ?_)
  refine A_le0 (t := 48) d_89_28 (by decide) ?_ ?_
  · exact A_ret rfl d_89_48
  · refine A_iload_n d_89_31 rfl ?_
    refine A_lt0 (t := 48) d_89_32 (by decide) ?_ ?_
    · exact A_ret rfl d_89_48
    · refine A_iload_n d_89_35 rfl ?_
      refine A_aload_n d_89_36 rfl ?_
      refine A_getfA rfl d_89_37 kF_3_11 (fun v37 => ?_)
      refine A_alen rfl d_89_40 (fun v40 => ?_)
      refine A_ge (t := 48) d_89_41 (by decide) ?_ ?_
      · exact A_ret rfl d_89_48
      · refine A_aload_n d_89_44 rfl ?_
        refine A_nonnull (t := 49) d_89_45 (by decide) ?_ ?_
        · refine A_aload_n d_89_49 rfl ?_
          refine A_aload_n d_89_50 rfl ?_
          refine A_getfA rfl d_89_51 kF_3_11 (fun v51 => ?_)
          refine A_iload_n d_89_54 rfl ?_
          refine A_aald rfl d_89_55 (fun v55 => ?_)
          refine A_callU (t := 50) (way := 0) rfl d_89_56 rfl (cl kI_3_29 rfl) rfl rfl rfl (fun h56 => ?_)
          refine A_aload_n d_89_59 rfl ?_
          refine A_iload_n d_89_60 rfl ?_
          refine A_putfI rfl d_89_61 kF_3_20 rfl (fun h61 => ?_)
          refine A_aload_n d_89_64 rfl ?_
          refine A_dup d_89_65 rfl ?_
          refine A_getfI rfl d_89_66 kF_3_16 (by decide) (fun v66 => ?_)
          refine A_iconst d_89_69 (by decide) ?_
          refine A_isub d_89_70 ?_
          refine A_putfI rfl d_89_71 kF_3_16 rfl (fun h71 => ?_)
          exact A_ret rfl d_89_74
        · exact A_ret rfl d_89_48
set_option maxRecDepth 20000 in
theorem q_Sh_giveBack (a0 : Nat) (a1 : Nat) (h : mH) (ho : isO h a0 3 = true) : F_Sh_giveBack a0 a1 h =
  (gfd 3 1 h a0).bind fun v1 =>
  if v1 ≤ 0 then
    ((gfd 3 0 h a0).bind fun v17 =>
    (aln h v17.toNat).bind fun v20 =>
    B_Sh_giveBack_23 a0 a1 (w32 (v20 - 1)) h)
  else
    ((gfd 3 1 h a0).bind fun v8 =>
    B_Sh_giveBack_23 a0 a1 (w32 (v8 - 1)) h) := by
  refine (congrArg asU (if_pos ho)).trans ?_
  show asU (Lim 89 0 [some (.inr (.inr a0)), some (.inr (.inr a1)), none] [] h) = _
  refine A_aload_n d_89_0 rfl ?_
  refine A_getfI rfl d_89_1 kF_3_20 (by decide) (fun v1 => ?_)
  refine A_le0 (t := 16) d_89_4 (by decide) ?_ ?_
  · refine A_aload_n d_89_16 rfl ?_
    refine A_getfA rfl d_89_17 kF_3_11 (fun v17 => ?_)
    refine A_alen rfl d_89_20 (fun v20 => ?_)
    refine A_iconst d_89_21 (by decide) ?_
    refine A_isub d_89_22 ?_
    exact rfl
  · refine A_aload_n d_89_7 rfl ?_
    refine A_getfI rfl d_89_8 kF_3_20 (by decide) (fun v8 => ?_)
    refine A_iconst d_89_11 (by decide) ?_
    refine A_isub d_89_12 ?_
    refine A_goto (t := 23) d_89_13 (by decide) ?_
    exact rfl

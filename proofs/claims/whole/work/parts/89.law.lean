/-! the law as a function (by program) -/
set_option maxRecDepth 20000 in
theorem q_Lw_law_18 (a0 : Nat) (a1 : Nat) (a2 : Nat) (x3 : Int) (h : mH) : B_Lw_law_18 a0 a1 a2 x3 h =
  (aln h a0).bind fun v20 =>
  if w32 (v20 - 7) < x3 then
    (some (1, h))
  else
    ((ald 10 h a0 x3).bind fun v29 =>
    if iand v29 31 = 0 then
      ((ald 10 h a0 (w32 (x3 + 1))).bind fun v157 =>
      (F_Tb_write a1 v157 h).bind fun q158 =>
      (ald 10 q158.2 a0 (w32 (x3 + 1))).bind fun v166 =>
      (F_Md_write a2 v166 q158.2).bind fun q167 =>
      if q158.1 = q167.1 then
        (B_Lw_law_934 a0 a1 a2 x3 q167.2)
      else
        (some (0, q167.2)))
    else if iand v29 31 = 1 then
      ((F_Tb_wipe a1 h).bind fun q176 =>
      (F_Md_wipe a2 q176.2).bind fun q180 =>
      if q176.1 = q180.1 then
        (B_Lw_law_934 a0 a1 a2 x3 q180.2)
      else
        (some (0, q180.2)))
    else if iand v29 31 = 2 then
      ((F_Tb_fault a1 h).bind fun q189 =>
      (F_Md_fault a2 q189.2).bind fun q193 =>
      if q189.1 = q193.1 then
        (B_Lw_law_934 a0 a1 a2 x3 q193.2)
      else
        (some (0, q193.2)))
    else if iand v29 31 = 3 then
      ((F_Tb_lay a1 h).bind fun q202 =>
      (F_Md_lay a2 q202.2).bind fun q206 =>
      if q202.1 = q206.1 then
        (B_Lw_law_934 a0 a1 a2 x3 q206.2)
      else
        (some (0, q206.2)))
    else if iand v29 31 = 4 then
      ((ald 10 h a0 (w32 (x3 + 1))).bind fun v219 =>
      (ald 10 h a0 (w32 (x3 + 2))).bind fun v224 =>
      (F_Tb_sort a1 v219 v224 h).bind fun q225 =>
      (ald 10 q225.2 a0 (w32 (x3 + 1))).bind fun v233 =>
      (ald 10 q225.2 a0 (w32 (x3 + 2))).bind fun v238 =>
      (F_Md_sort a2 v233 v238 q225.2).bind fun q239 =>
      if q225.1 = q239.1 then
        (B_Lw_law_934 a0 a1 a2 x3 q239.2)
      else
        (some (0, q239.2)))
    else if iand v29 31 = 5 then
      ((ald 10 h a0 (w32 (x3 + 1))).bind fun v252 =>
      (ald 10 h a0 (w32 (x3 + 2))).bind fun v257 =>
      (F_Tb_label a1 v252 v257 h).bind fun q258 =>
      (ald 10 q258.2 a0 (w32 (x3 + 1))).bind fun v266 =>
      (ald 10 q258.2 a0 (w32 (x3 + 2))).bind fun v271 =>
      (F_Md_label a2 v266 v271 q258.2).bind fun q272 =>
      if q258.1 = q272.1 then
        (B_Lw_law_934 a0 a1 a2 x3 q272.2)
      else
        (some (0, q272.2)))
    else if iand v29 31 = 6 then
      ((ald 10 h a0 (w32 (x3 + 1))).bind fun v285 =>
      (ald 10 h a0 (w32 (x3 + 2))).bind fun v290 =>
      (ald 10 h a0 (w32 (x3 + 3))).bind fun v295 =>
      (F_Tb_code a1 v285 v290 v295 h).bind fun q296 =>
      (ald 10 q296.2 a0 (w32 (x3 + 1))).bind fun v304 =>
      (ald 10 q296.2 a0 (w32 (x3 + 2))).bind fun v309 =>
      (ald 10 q296.2 a0 (w32 (x3 + 3))).bind fun v314 =>
      (F_Md_code a2 v304 v309 v314 q296.2).bind fun q315 =>
      if q296.1 = q315.1 then
        (B_Lw_law_934 a0 a1 a2 x3 q315.2)
      else
        (some (0, q315.2)))
    else if iand v29 31 = 7 then
      ((ald 10 h a0 (w32 (x3 + 1))).bind fun v328 =>
      (ald 10 h a0 (w32 (x3 + 2))).bind fun v333 =>
      (ald 10 h a0 (w32 (x3 + 3))).bind fun v338 =>
      (ald 10 h a0 (w32 (x3 + 4))).bind fun v343 =>
      (ald 10 h a0 (w32 (x3 + 5))).bind fun v348 =>
      (ald 10 h a0 (w32 (x3 + 6))).bind fun v354 =>
      (F_Tb_put a1 v328 v333 v338 v343 v348 v354 h).bind fun q355 =>
      (ald 10 q355.2 a0 (w32 (x3 + 1))).bind fun v363 =>
      (ald 10 q355.2 a0 (w32 (x3 + 2))).bind fun v368 =>
      (ald 10 q355.2 a0 (w32 (x3 + 3))).bind fun v373 =>
      (ald 10 q355.2 a0 (w32 (x3 + 4))).bind fun v378 =>
      (ald 10 q355.2 a0 (w32 (x3 + 5))).bind fun v383 =>
      (ald 10 q355.2 a0 (w32 (x3 + 6))).bind fun v389 =>
      (F_Md_put a2 v363 v368 v373 v378 v383 v389 q355.2).bind fun q390 =>
      if q355.1 = q390.1 then
        (B_Lw_law_934 a0 a1 a2 x3 q390.2)
      else
        (some (0, q390.2)))
    else if iand v29 31 = 8 then
      ((ald 10 h a0 (w32 (x3 + 1))).bind fun v403 =>
      (ald 10 h a0 (w32 (x3 + 2))).bind fun v408 =>
      (ald 10 h a0 (w32 (x3 + 3))).bind fun v413 =>
      (ald 10 h a0 (w32 (x3 + 4))).bind fun v418 =>
      (ald 10 h a0 (w32 (x3 + 5))).bind fun v423 =>
      (ald 10 h a0 (w32 (x3 + 6))).bind fun v429 =>
      (F_Tb_add a1 v403 v408 v413 v418 v423 v429 h).bind fun q430 =>
      (ald 10 q430.2 a0 (w32 (x3 + 1))).bind fun v438 =>
      (ald 10 q430.2 a0 (w32 (x3 + 2))).bind fun v443 =>
      (ald 10 q430.2 a0 (w32 (x3 + 3))).bind fun v448 =>
      (ald 10 q430.2 a0 (w32 (x3 + 4))).bind fun v453 =>
      (ald 10 q430.2 a0 (w32 (x3 + 5))).bind fun v458 =>
      (ald 10 q430.2 a0 (w32 (x3 + 6))).bind fun v464 =>
      (F_Md_add a2 v438 v443 v448 v453 v458 v464 q430.2).bind fun q465 =>
      if q430.1 = q465.1 then
        (B_Lw_law_934 a0 a1 a2 x3 q465.2)
      else
        (some (0, q465.2)))
    else if iand v29 31 = 9 then
      ((ald 10 h a0 (w32 (x3 + 1))).bind fun v478 =>
      (ald 10 h a0 (w32 (x3 + 2))).bind fun v483 =>
      (F_Tb_cut a1 v478 v483 h).bind fun q484 =>
      (ald 10 q484.2 a0 (w32 (x3 + 1))).bind fun v492 =>
      (ald 10 q484.2 a0 (w32 (x3 + 2))).bind fun v497 =>
      (F_Md_cut a2 v492 v497 q484.2).bind fun q498 =>
      if q484.1 = q498.1 then
        (B_Lw_law_934 a0 a1 a2 x3 q498.2)
      else
        (some (0, q498.2)))
    else if iand v29 31 = 10 then
      ((ald 10 h a0 (w32 (x3 + 1))).bind fun v511 =>
      (ald 10 h a0 (w32 (x3 + 2))).bind fun v516 =>
      (ald 10 h a0 (w32 (x3 + 3))).bind fun v521 =>
      (F_Tb_want a1 v511 v516 v521 h).bind fun q522 =>
      (ald 10 q522.2 a0 (w32 (x3 + 1))).bind fun v530 =>
      (ald 10 q522.2 a0 (w32 (x3 + 2))).bind fun v535 =>
      (ald 10 q522.2 a0 (w32 (x3 + 3))).bind fun v540 =>
      (F_Md_want a2 v530 v535 v540 q522.2).bind fun q541 =>
      if q522.1 = q541.1 then
        (B_Lw_law_934 a0 a1 a2 x3 q541.2)
      else
        (some (0, q541.2)))
    else if iand v29 31 = 11 then
      ((ald 10 h a0 (w32 (x3 + 1))).bind fun v554 =>
      (ald 10 h a0 (w32 (x3 + 2))).bind fun v559 =>
      (F_Tb_below a1 v554 v559 h).bind fun q560 =>
      (ald 10 q560.2 a0 (w32 (x3 + 1))).bind fun v568 =>
      (ald 10 q560.2 a0 (w32 (x3 + 2))).bind fun v573 =>
      (F_Md_below a2 v568 v573 q560.2).bind fun q574 =>
      if q560.1 = q574.1 then
        (B_Lw_law_934 a0 a1 a2 x3 q574.2)
      else
        (some (0, q574.2)))
    else if iand v29 31 = 12 then
      ((F_Tb_undo a1 h).bind fun q583 =>
      (F_Md_undo a2 q583.2).bind fun q587 =>
      if q583.1 = q587.1 then
        (B_Lw_law_934 a0 a1 a2 x3 q587.2)
      else
        (some (0, q587.2)))
    else if iand v29 31 = 13 then
      ((ald 10 h a0 (w32 (x3 + 1))).bind fun v600 =>
      (F_Tb_check a1 v600 h).bind fun q601 =>
      (ald 10 q601.2 a0 (w32 (x3 + 1))).bind fun v609 =>
      (F_Md_check a2 v609 q601.2).bind fun q610 =>
      if q601.1 = q610.1 then
        (B_Lw_law_934 a0 a1 a2 x3 q610.2)
      else
        (some (0, q610.2)))
    else if iand v29 31 = 14 then
      ((ald 10 h a0 (w32 (x3 + 1))).bind fun v623 =>
      (F_Tb_reason a1 v623 h).bind fun q624 =>
      (ald 10 q624.2 a0 (w32 (x3 + 1))).bind fun v632 =>
      (F_Md_reason a2 v632 q624.2).bind fun q633 =>
      if q624.1 = q633.1 then
        (B_Lw_law_934 a0 a1 a2 x3 q633.2)
      else
        (some (0, q633.2)))
    else if iand v29 31 = 15 then
      ((ald 10 h a0 (w32 (x3 + 1))).bind fun v646 =>
      (ald 10 h a0 (w32 (x3 + 2))).bind fun v651 =>
      (ald 10 h a0 (w32 (x3 + 3))).bind fun v656 =>
      (F_Tb_ahead a1 v646 v651 v656 h).bind fun q657 =>
      (ald 10 q657.2 a0 (w32 (x3 + 1))).bind fun v665 =>
      (ald 10 q657.2 a0 (w32 (x3 + 2))).bind fun v670 =>
      (ald 10 q657.2 a0 (w32 (x3 + 3))).bind fun v675 =>
      (F_Md_ahead a2 v665 v670 v675 q657.2).bind fun q676 =>
      if q657.1 = q676.1 then
        (B_Lw_law_934 a0 a1 a2 x3 q676.2)
      else
        (some (0, q676.2)))
    else if iand v29 31 = 16 then
      ((F_Tb_sure a1 h).bind fun q685 =>
      (F_Md_sure a2 q685.2).bind fun q689 =>
      if q685.1 = q689.1 then
        (B_Lw_law_934 a0 a1 a2 x3 q689.2)
      else
        (some (0, q689.2)))
    else if iand v29 31 = 17 then
      ((ald 10 h a0 (w32 (x3 + 1))).bind fun v702 =>
      (F_Tb_joins a1 v702 h).bind fun q703 =>
      (ald 10 q703.2 a0 (w32 (x3 + 1))).bind fun v711 =>
      (F_Md_joins a2 v711 q703.2).bind fun q712 =>
      if q703.1 = q712.1 then
        (B_Lw_law_934 a0 a1 a2 x3 q712.2)
      else
        (some (0, q712.2)))
    else if iand v29 31 = 18 then
      ((ald 10 h a0 (w32 (x3 + 1))).bind fun v725 =>
      (ald 10 h a0 (w32 (x3 + 2))).bind fun v730 =>
      (F_Tb_might a1 v725 v730 h).bind fun q731 =>
      (ald 10 q731.2 a0 (w32 (x3 + 1))).bind fun v739 =>
      (ald 10 q731.2 a0 (w32 (x3 + 2))).bind fun v744 =>
      (F_Md_might a2 v739 v744 q731.2).bind fun q745 =>
      if q731.1 = q745.1 then
        (B_Lw_law_934 a0 a1 a2 x3 q745.2)
      else
        (some (0, q745.2)))
    else if iand v29 31 = 19 then
      ((F_Tb_reached a1 h).bind fun q754 =>
      (F_Md_reached a2 q754.2).bind fun q758 =>
      if q754.1 = q758.1 then
        (B_Lw_law_934 a0 a1 a2 x3 q758.2)
      else
        (some (0, q758.2)))
    else if iand v29 31 = 20 then
      ((ald 10 h a0 (w32 (x3 + 1))).bind fun v771 =>
      (ald 10 h a0 (w32 (x3 + 2))).bind fun v776 =>
      (F_Tb_mends a1 v771 v776 h).bind fun q777 =>
      (ald 10 q777.2 a0 (w32 (x3 + 1))).bind fun v785 =>
      (ald 10 q777.2 a0 (w32 (x3 + 2))).bind fun v790 =>
      (F_Md_mends a2 v785 v790 q777.2).bind fun q791 =>
      if q777.1 = q791.1 then
        (B_Lw_law_934 a0 a1 a2 x3 q791.2)
      else
        (some (0, q791.2)))
    else if iand v29 31 = 21 then
      ((ald 10 h a0 (w32 (x3 + 1))).bind fun v804 =>
      (ald 10 h a0 (w32 (x3 + 2))).bind fun v809 =>
      (ald 10 h a0 (w32 (x3 + 3))).bind fun v814 =>
      (F_Tb_run a1 v804 v809 v814 h).bind fun q815 =>
      (ald 10 q815.2 a0 (w32 (x3 + 1))).bind fun v823 =>
      (ald 10 q815.2 a0 (w32 (x3 + 2))).bind fun v828 =>
      (ald 10 q815.2 a0 (w32 (x3 + 3))).bind fun v833 =>
      (F_Md_run a2 v823 v828 v833 q815.2).bind fun q834 =>
      if q815.1 = q834.1 then
        (B_Lw_law_934 a0 a1 a2 x3 q834.2)
      else
        (some (0, q834.2)))
    else if iand v29 31 = 22 then
      ((ald 10 h a0 (w32 (x3 + 1))).bind fun v847 =>
      (ald 10 h a0 (w32 (x3 + 2))).bind fun v852 =>
      (ald 10 h a0 (w32 (x3 + 3))).bind fun v857 =>
      (F_Tb_day a1 v847 v852 v857 h).bind fun q858 =>
      (ald 10 q858.2 a0 (w32 (x3 + 1))).bind fun v866 =>
      (ald 10 q858.2 a0 (w32 (x3 + 2))).bind fun v871 =>
      (ald 10 q858.2 a0 (w32 (x3 + 3))).bind fun v876 =>
      (F_Md_day a2 v866 v871 v876 q858.2).bind fun q877 =>
      if q858.1 = q877.1 then
        (B_Lw_law_934 a0 a1 a2 x3 q877.2)
      else
        (some (0, q877.2)))
    else if iand v29 31 = 23 then
      ((F_Tb_keep a1 h).bind fun q886 =>
      (F_Md_keep a2 q886.2).bind fun q890 =>
      if q886.1 = q890.1 then
        (B_Lw_law_934 a0 a1 a2 x3 q890.2)
      else
        (some (0, q890.2)))
    else if iand v29 31 = 24 then
      ((F_Tb_back a1 h).bind fun q899 =>
      (F_Md_back a2 q899.2).bind fun q903 =>
      if q899.1 = q903.1 then
        (B_Lw_law_934 a0 a1 a2 x3 q903.2)
      else
        (some (0, q903.2)))
    else if iand v29 31 = 25 then
      ((ald 10 h a0 (w32 (x3 + 1))).bind fun v916 =>
      (F_Tb_count a1 v916 h).bind fun q917 =>
      (ald 10 q917.2 a0 (w32 (x3 + 1))).bind fun v925 =>
      (F_Md_count a2 v925 q917.2).bind fun q926 =>
      if q917.1 = q926.1 then
        (B_Lw_law_934 a0 a1 a2 x3 q926.2)
      else
        (some (0, q926.2)))
    else (B_Lw_law_934 a0 a1 a2 x3 h)) := by
  unfold B_Lw_law_18
  refine A_iload_n d_223_18 rfl ?_
  refine A_aload_n d_223_19 rfl ?_
  refine A_alen rfl d_223_20 (fun v20 => ?_)
  refine A_bipush d_223_21 (by decide) ?_
  refine A_isub d_223_23 ?_
  refine A_gt (t := 940) d_223_24 (by decide) ?_ ?_
  · refine A_iconst d_223_940 (by decide) ?_
    exact A_iretz rfl d_223_941 (by decide)
  · refine A_aload_n d_223_27 rfl ?_
    refine A_iload_n d_223_28 rfl ?_
    refine A_iald rfl d_223_29 (fun v29 => ?_)
    refine A_bipush d_223_30 (by decide) ?_
    refine A_iand d_223_32 ?_
    refine A_if (fun e33_0 => ?_) (fun e33_0 => ?_)
    · refine A_tab (t := 152) d_223_33 (by rw [e33_0]; decide) ?_
      refine A_aload_n d_223_152 rfl ?_
      refine A_aload_n d_223_153 rfl ?_
      refine A_iload_n d_223_154 rfl ?_
      refine A_iconst d_223_155 (by decide) ?_
      refine A_iadd d_223_156 ?_
      refine A_iald rfl d_223_157 (fun v157 => ?_)
      refine A_call (t := 105) (way := 0) rfl d_223_158 rfl (cl kI_7_13 rfl) rfl (by decide) rfl (fun q158 => ?_)
      refine A_aload_n d_223_161 rfl ?_
      refine A_aload_n d_223_162 rfl ?_
      refine A_iload_n d_223_163 rfl ?_
      refine A_iconst d_223_164 (by decide) ?_
      refine A_iadd d_223_165 ?_
      refine A_iald rfl d_223_166 (fun v166 => ?_)
      refine A_call (t := 143) (way := 0) rfl d_223_167 rfl (cl kI_7_17 rfl) rfl (by decide) rfl (fun q167 => ?_)
      refine A_eq (t := 934) d_223_170 (by decide) ?_ ?_
      · exact rfl
      · refine A_iconst d_223_173 (by decide) ?_
        exact A_iretz rfl d_223_174 (by decide)
    refine A_if (fun e33_1 => ?_) (fun e33_1 => ?_)
    · refine A_tab (t := 175) d_223_33 (by rw [e33_1]; decide) ?_
      refine A_aload_n d_223_175 rfl ?_
      refine A_call (t := 106) (way := 0) rfl d_223_176 rfl (cl kI_7_18 rfl) rfl (by decide) rfl (fun q176 => ?_)
      refine A_aload_n d_223_179 rfl ?_
      refine A_call (t := 144) (way := 0) rfl d_223_180 rfl (cl kI_7_22 rfl) rfl (by decide) rfl (fun q180 => ?_)
      refine A_eq (t := 934) d_223_183 (by decide) ?_ ?_
      · exact rfl
      · refine A_iconst d_223_186 (by decide) ?_
        exact A_iretz rfl d_223_187 (by decide)
    refine A_if (fun e33_2 => ?_) (fun e33_2 => ?_)
    · refine A_tab (t := 188) d_223_33 (by rw [e33_2]; decide) ?_
      refine A_aload_n d_223_188 rfl ?_
      refine A_call (t := 107) (way := 0) rfl d_223_189 rfl (cl kI_7_23 rfl) rfl (by decide) rfl (fun q189 => ?_)
      refine A_aload_n d_223_192 rfl ?_
      refine A_call (t := 156) (way := 0) rfl d_223_193 rfl (cl kI_7_26 rfl) rfl (by decide) rfl (fun q193 => ?_)
      refine A_eq (t := 934) d_223_196 (by decide) ?_ ?_
      · exact rfl
      · refine A_iconst d_223_199 (by decide) ?_
        exact A_iretz rfl d_223_200 (by decide)
    refine A_if (fun e33_3 => ?_) (fun e33_3 => ?_)
    · refine A_tab (t := 201) d_223_33 (by rw [e33_3]; decide) ?_
      refine A_aload_n d_223_201 rfl ?_
      refine A_call (t := 108) (way := 0) rfl d_223_202 rfl (cl kI_7_27 rfl) rfl (by decide) rfl (fun q202 => ?_)
      refine A_aload_n d_223_205 rfl ?_
      refine A_call (t := 157) (way := 0) rfl d_223_206 rfl (cl kI_7_30 rfl) rfl (by decide) rfl (fun q206 => ?_)
      refine A_eq (t := 934) d_223_209 (by decide) ?_ ?_
      · exact rfl
      · refine A_iconst d_223_212 (by decide) ?_
        exact A_iretz rfl d_223_213 (by decide)
    refine A_if (fun e33_4 => ?_) (fun e33_4 => ?_)
    · refine A_tab (t := 214) d_223_33 (by rw [e33_4]; decide) ?_
      refine A_aload_n d_223_214 rfl ?_
      refine A_aload_n d_223_215 rfl ?_
      refine A_iload_n d_223_216 rfl ?_
      refine A_iconst d_223_217 (by decide) ?_
      refine A_iadd d_223_218 ?_
      refine A_iald rfl d_223_219 (fun v219 => ?_)
      refine A_aload_n d_223_220 rfl ?_
      refine A_iload_n d_223_221 rfl ?_
      refine A_iconst d_223_222 (by decide) ?_
      refine A_iadd d_223_223 ?_
      refine A_iald rfl d_223_224 (fun v224 => ?_)
      refine A_call (t := 109) (way := 0) rfl d_223_225 rfl (cl kI_7_31 rfl) rfl (by decide) rfl (fun q225 => ?_)
      refine A_aload_n d_223_228 rfl ?_
      refine A_aload_n d_223_229 rfl ?_
      refine A_iload_n d_223_230 rfl ?_
      refine A_iconst d_223_231 (by decide) ?_
      refine A_iadd d_223_232 ?_
      refine A_iald rfl d_223_233 (fun v233 => ?_)
      refine A_aload_n d_223_234 rfl ?_
      refine A_iload_n d_223_235 rfl ?_
      refine A_iconst d_223_236 (by decide) ?_
      refine A_iadd d_223_237 ?_
      refine A_iald rfl d_223_238 (fun v238 => ?_)
      refine A_call (t := 163) (way := 0) rfl d_223_239 rfl (cl kI_7_35 rfl) rfl (by decide) rfl (fun q239 => ?_)
      refine A_eq (t := 934) d_223_242 (by decide) ?_ ?_
      · exact rfl
      · refine A_iconst d_223_245 (by decide) ?_
        exact A_iretz rfl d_223_246 (by decide)
    refine A_if (fun e33_5 => ?_) (fun e33_5 => ?_)
    · refine A_tab (t := 247) d_223_33 (by rw [e33_5]; decide) ?_
      refine A_aload_n d_223_247 rfl ?_
      refine A_aload_n d_223_248 rfl ?_
      refine A_iload_n d_223_249 rfl ?_
      refine A_iconst d_223_250 (by decide) ?_
      refine A_iadd d_223_251 ?_
      refine A_iald rfl d_223_252 (fun v252 => ?_)
      refine A_aload_n d_223_253 rfl ?_
      refine A_iload_n d_223_254 rfl ?_
      refine A_iconst d_223_255 (by decide) ?_
      refine A_iadd d_223_256 ?_
      refine A_iald rfl d_223_257 (fun v257 => ?_)
      refine A_call (t := 110) (way := 0) rfl d_223_258 rfl (cl kI_7_36 rfl) rfl (by decide) rfl (fun q258 => ?_)
      refine A_aload_n d_223_261 rfl ?_
      refine A_aload_n d_223_262 rfl ?_
      refine A_iload_n d_223_263 rfl ?_
      refine A_iconst d_223_264 (by decide) ?_
      refine A_iadd d_223_265 ?_
      refine A_iald rfl d_223_266 (fun v266 => ?_)
      refine A_aload_n d_223_267 rfl ?_
      refine A_iload_n d_223_268 rfl ?_
      refine A_iconst d_223_269 (by decide) ?_
      refine A_iadd d_223_270 ?_
      refine A_iald rfl d_223_271 (fun v271 => ?_)
      refine A_call (t := 164) (way := 0) rfl d_223_272 rfl (cl kI_7_39 rfl) rfl (by decide) rfl (fun q272 => ?_)
      refine A_eq (t := 934) d_223_275 (by decide) ?_ ?_
      · exact rfl
      · refine A_iconst d_223_278 (by decide) ?_
        exact A_iretz rfl d_223_279 (by decide)
    refine A_if (fun e33_6 => ?_) (fun e33_6 => ?_)
    · refine A_tab (t := 280) d_223_33 (by rw [e33_6]; decide) ?_
      refine A_aload_n d_223_280 rfl ?_
      refine A_aload_n d_223_281 rfl ?_
      refine A_iload_n d_223_282 rfl ?_
      refine A_iconst d_223_283 (by decide) ?_
      refine A_iadd d_223_284 ?_
      refine A_iald rfl d_223_285 (fun v285 => ?_)
      refine A_aload_n d_223_286 rfl ?_
      refine A_iload_n d_223_287 rfl ?_
      refine A_iconst d_223_288 (by decide) ?_
      refine A_iadd d_223_289 ?_
      refine A_iald rfl d_223_290 (fun v290 => ?_)
      refine A_aload_n d_223_291 rfl ?_
      refine A_iload_n d_223_292 rfl ?_
      refine A_iconst d_223_293 (by decide) ?_
      refine A_iadd d_223_294 ?_
      refine A_iald rfl d_223_295 (fun v295 => ?_)
      refine A_call (t := 111) (way := 0) rfl d_223_296 rfl (cl kI_7_40 rfl) rfl (by decide) rfl (fun q296 => ?_)
      refine A_aload_n d_223_299 rfl ?_
      refine A_aload_n d_223_300 rfl ?_
      refine A_iload_n d_223_301 rfl ?_
      refine A_iconst d_223_302 (by decide) ?_
      refine A_iadd d_223_303 ?_
      refine A_iald rfl d_223_304 (fun v304 => ?_)
      refine A_aload_n d_223_305 rfl ?_
      refine A_iload_n d_223_306 rfl ?_
      refine A_iconst d_223_307 (by decide) ?_
      refine A_iadd d_223_308 ?_
      refine A_iald rfl d_223_309 (fun v309 => ?_)
      refine A_aload_n d_223_310 rfl ?_
      refine A_iload_n d_223_311 rfl ?_
      refine A_iconst d_223_312 (by decide) ?_
      refine A_iadd d_223_313 ?_
      refine A_iald rfl d_223_314 (fun v314 => ?_)
      refine A_call (t := 165) (way := 0) rfl d_223_315 rfl (cl kI_7_44 rfl) rfl (by decide) rfl (fun q315 => ?_)
      refine A_eq (t := 934) d_223_318 (by decide) ?_ ?_
      · exact rfl
      · refine A_iconst d_223_321 (by decide) ?_
        exact A_iretz rfl d_223_322 (by decide)
    refine A_if (fun e33_7 => ?_) (fun e33_7 => ?_)
    · refine A_tab (t := 323) d_223_33 (by rw [e33_7]; decide) ?_
      refine A_aload_n d_223_323 rfl ?_
      refine A_aload_n d_223_324 rfl ?_
      refine A_iload_n d_223_325 rfl ?_
      refine A_iconst d_223_326 (by decide) ?_
      refine A_iadd d_223_327 ?_
      refine A_iald rfl d_223_328 (fun v328 => ?_)
      refine A_aload_n d_223_329 rfl ?_
      refine A_iload_n d_223_330 rfl ?_
      refine A_iconst d_223_331 (by decide) ?_
      refine A_iadd d_223_332 ?_
      refine A_iald rfl d_223_333 (fun v333 => ?_)
      refine A_aload_n d_223_334 rfl ?_
      refine A_iload_n d_223_335 rfl ?_
      refine A_iconst d_223_336 (by decide) ?_
      refine A_iadd d_223_337 ?_
      refine A_iald rfl d_223_338 (fun v338 => ?_)
      refine A_aload_n d_223_339 rfl ?_
      refine A_iload_n d_223_340 rfl ?_
      refine A_iconst d_223_341 (by decide) ?_
      refine A_iadd d_223_342 ?_
      refine A_iald rfl d_223_343 (fun v343 => ?_)
      refine A_aload_n d_223_344 rfl ?_
      refine A_iload_n d_223_345 rfl ?_
      refine A_iconst d_223_346 (by decide) ?_
      refine A_iadd d_223_347 ?_
      refine A_iald rfl d_223_348 (fun v348 => ?_)
      refine A_aload_n d_223_349 rfl ?_
      refine A_iload_n d_223_350 rfl ?_
      refine A_bipush d_223_351 (by decide) ?_
      refine A_iadd d_223_353 ?_
      refine A_iald rfl d_223_354 (fun v354 => ?_)
      refine A_call (t := 112) (way := 0) rfl d_223_355 rfl (cl kI_7_45 rfl) rfl (by decide) rfl (fun q355 => ?_)
      refine A_aload_n d_223_358 rfl ?_
      refine A_aload_n d_223_359 rfl ?_
      refine A_iload_n d_223_360 rfl ?_
      refine A_iconst d_223_361 (by decide) ?_
      refine A_iadd d_223_362 ?_
      refine A_iald rfl d_223_363 (fun v363 => ?_)
      refine A_aload_n d_223_364 rfl ?_
      refine A_iload_n d_223_365 rfl ?_
      refine A_iconst d_223_366 (by decide) ?_
      refine A_iadd d_223_367 ?_
      refine A_iald rfl d_223_368 (fun v368 => ?_)
      refine A_aload_n d_223_369 rfl ?_
      refine A_iload_n d_223_370 rfl ?_
      refine A_iconst d_223_371 (by decide) ?_
      refine A_iadd d_223_372 ?_
      refine A_iald rfl d_223_373 (fun v373 => ?_)
      refine A_aload_n d_223_374 rfl ?_
      refine A_iload_n d_223_375 rfl ?_
      refine A_iconst d_223_376 (by decide) ?_
      refine A_iadd d_223_377 ?_
      refine A_iald rfl d_223_378 (fun v378 => ?_)
      refine A_aload_n d_223_379 rfl ?_
      refine A_iload_n d_223_380 rfl ?_
      refine A_iconst d_223_381 (by decide) ?_
      refine A_iadd d_223_382 ?_
      refine A_iald rfl d_223_383 (fun v383 => ?_)
      refine A_aload_n d_223_384 rfl ?_
      refine A_iload_n d_223_385 rfl ?_
      refine A_bipush d_223_386 (by decide) ?_
      refine A_iadd d_223_388 ?_
      refine A_iald rfl d_223_389 (fun v389 => ?_)
      refine A_call (t := 169) (way := 0) rfl d_223_390 rfl (cl kI_7_49 rfl) rfl (by decide) rfl (fun q390 => ?_)
      refine A_eq (t := 934) d_223_393 (by decide) ?_ ?_
      · exact rfl
      · refine A_iconst d_223_396 (by decide) ?_
        exact A_iretz rfl d_223_397 (by decide)
    refine A_if (fun e33_8 => ?_) (fun e33_8 => ?_)
    · refine A_tab (t := 398) d_223_33 (by rw [e33_8]; decide) ?_
      refine A_aload_n d_223_398 rfl ?_
      refine A_aload_n d_223_399 rfl ?_
      refine A_iload_n d_223_400 rfl ?_
      refine A_iconst d_223_401 (by decide) ?_
      refine A_iadd d_223_402 ?_
      refine A_iald rfl d_223_403 (fun v403 => ?_)
      refine A_aload_n d_223_404 rfl ?_
      refine A_iload_n d_223_405 rfl ?_
      refine A_iconst d_223_406 (by decide) ?_
      refine A_iadd d_223_407 ?_
      refine A_iald rfl d_223_408 (fun v408 => ?_)
      refine A_aload_n d_223_409 rfl ?_
      refine A_iload_n d_223_410 rfl ?_
      refine A_iconst d_223_411 (by decide) ?_
      refine A_iadd d_223_412 ?_
      refine A_iald rfl d_223_413 (fun v413 => ?_)
      refine A_aload_n d_223_414 rfl ?_
      refine A_iload_n d_223_415 rfl ?_
      refine A_iconst d_223_416 (by decide) ?_
      refine A_iadd d_223_417 ?_
      refine A_iald rfl d_223_418 (fun v418 => ?_)
      refine A_aload_n d_223_419 rfl ?_
      refine A_iload_n d_223_420 rfl ?_
      refine A_iconst d_223_421 (by decide) ?_
      refine A_iadd d_223_422 ?_
      refine A_iald rfl d_223_423 (fun v423 => ?_)
      refine A_aload_n d_223_424 rfl ?_
      refine A_iload_n d_223_425 rfl ?_
      refine A_bipush d_223_426 (by decide) ?_
      refine A_iadd d_223_428 ?_
      refine A_iald rfl d_223_429 (fun v429 => ?_)
      refine A_call (t := 113) (way := 0) rfl d_223_430 rfl (cl kI_7_50 rfl) rfl (by decide) rfl (fun q430 => ?_)
      refine A_aload_n d_223_433 rfl ?_
      refine A_aload_n d_223_434 rfl ?_
      refine A_iload_n d_223_435 rfl ?_
      refine A_iconst d_223_436 (by decide) ?_
      refine A_iadd d_223_437 ?_
      refine A_iald rfl d_223_438 (fun v438 => ?_)
      refine A_aload_n d_223_439 rfl ?_
      refine A_iload_n d_223_440 rfl ?_
      refine A_iconst d_223_441 (by decide) ?_
      refine A_iadd d_223_442 ?_
      refine A_iald rfl d_223_443 (fun v443 => ?_)
      refine A_aload_n d_223_444 rfl ?_
      refine A_iload_n d_223_445 rfl ?_
      refine A_iconst d_223_446 (by decide) ?_
      refine A_iadd d_223_447 ?_
      refine A_iald rfl d_223_448 (fun v448 => ?_)
      refine A_aload_n d_223_449 rfl ?_
      refine A_iload_n d_223_450 rfl ?_
      refine A_iconst d_223_451 (by decide) ?_
      refine A_iadd d_223_452 ?_
      refine A_iald rfl d_223_453 (fun v453 => ?_)
      refine A_aload_n d_223_454 rfl ?_
      refine A_iload_n d_223_455 rfl ?_
      refine A_iconst d_223_456 (by decide) ?_
      refine A_iadd d_223_457 ?_
      refine A_iald rfl d_223_458 (fun v458 => ?_)
      refine A_aload_n d_223_459 rfl ?_
      refine A_iload_n d_223_460 rfl ?_
      refine A_bipush d_223_461 (by decide) ?_
      refine A_iadd d_223_463 ?_
      refine A_iald rfl d_223_464 (fun v464 => ?_)
      refine A_call (t := 170) (way := 0) rfl d_223_465 rfl (cl kI_7_53 rfl) rfl (by decide) rfl (fun q465 => ?_)
      refine A_eq (t := 934) d_223_468 (by decide) ?_ ?_
      · exact rfl
      · refine A_iconst d_223_471 (by decide) ?_
        exact A_iretz rfl d_223_472 (by decide)
    refine A_if (fun e33_9 => ?_) (fun e33_9 => ?_)
    · refine A_tab (t := 473) d_223_33 (by rw [e33_9]; decide) ?_
      refine A_aload_n d_223_473 rfl ?_
      refine A_aload_n d_223_474 rfl ?_
      refine A_iload_n d_223_475 rfl ?_
      refine A_iconst d_223_476 (by decide) ?_
      refine A_iadd d_223_477 ?_
      refine A_iald rfl d_223_478 (fun v478 => ?_)
      refine A_aload_n d_223_479 rfl ?_
      refine A_iload_n d_223_480 rfl ?_
      refine A_iconst d_223_481 (by decide) ?_
      refine A_iadd d_223_482 ?_
      refine A_iald rfl d_223_483 (fun v483 => ?_)
      refine A_call (t := 114) (way := 0) rfl d_223_484 rfl (cl kI_7_54 rfl) rfl (by decide) rfl (fun q484 => ?_)
      refine A_aload_n d_223_487 rfl ?_
      refine A_aload_n d_223_488 rfl ?_
      refine A_iload_n d_223_489 rfl ?_
      refine A_iconst d_223_490 (by decide) ?_
      refine A_iadd d_223_491 ?_
      refine A_iald rfl d_223_492 (fun v492 => ?_)
      refine A_aload_n d_223_493 rfl ?_
      refine A_iload_n d_223_494 rfl ?_
      refine A_iconst d_223_495 (by decide) ?_
      refine A_iadd d_223_496 ?_
      refine A_iald rfl d_223_497 (fun v497 => ?_)
      refine A_call (t := 171) (way := 0) rfl d_223_498 rfl (cl kI_7_57 rfl) rfl (by decide) rfl (fun q498 => ?_)
      refine A_eq (t := 934) d_223_501 (by decide) ?_ ?_
      · exact rfl
      · refine A_iconst d_223_504 (by decide) ?_
        exact A_iretz rfl d_223_505 (by decide)
    refine A_if (fun e33_10 => ?_) (fun e33_10 => ?_)
    · refine A_tab (t := 506) d_223_33 (by rw [e33_10]; decide) ?_
      refine A_aload_n d_223_506 rfl ?_
      refine A_aload_n d_223_507 rfl ?_
      refine A_iload_n d_223_508 rfl ?_
      refine A_iconst d_223_509 (by decide) ?_
      refine A_iadd d_223_510 ?_
      refine A_iald rfl d_223_511 (fun v511 => ?_)
      refine A_aload_n d_223_512 rfl ?_
      refine A_iload_n d_223_513 rfl ?_
      refine A_iconst d_223_514 (by decide) ?_
      refine A_iadd d_223_515 ?_
      refine A_iald rfl d_223_516 (fun v516 => ?_)
      refine A_aload_n d_223_517 rfl ?_
      refine A_iload_n d_223_518 rfl ?_
      refine A_iconst d_223_519 (by decide) ?_
      refine A_iadd d_223_520 ?_
      refine A_iald rfl d_223_521 (fun v521 => ?_)
      refine A_call (t := 115) (way := 0) rfl d_223_522 rfl (cl kI_7_58 rfl) rfl (by decide) rfl (fun q522 => ?_)
      refine A_aload_n d_223_525 rfl ?_
      refine A_aload_n d_223_526 rfl ?_
      refine A_iload_n d_223_527 rfl ?_
      refine A_iconst d_223_528 (by decide) ?_
      refine A_iadd d_223_529 ?_
      refine A_iald rfl d_223_530 (fun v530 => ?_)
      refine A_aload_n d_223_531 rfl ?_
      refine A_iload_n d_223_532 rfl ?_
      refine A_iconst d_223_533 (by decide) ?_
      refine A_iadd d_223_534 ?_
      refine A_iald rfl d_223_535 (fun v535 => ?_)
      refine A_aload_n d_223_536 rfl ?_
      refine A_iload_n d_223_537 rfl ?_
      refine A_iconst d_223_538 (by decide) ?_
      refine A_iadd d_223_539 ?_
      refine A_iald rfl d_223_540 (fun v540 => ?_)
      refine A_call (t := 172) (way := 0) rfl d_223_541 rfl (cl kI_7_61 rfl) rfl (by decide) rfl (fun q541 => ?_)
      refine A_eq (t := 934) d_223_544 (by decide) ?_ ?_
      · exact rfl
      · refine A_iconst d_223_547 (by decide) ?_
        exact A_iretz rfl d_223_548 (by decide)
    refine A_if (fun e33_11 => ?_) (fun e33_11 => ?_)
    · refine A_tab (t := 549) d_223_33 (by rw [e33_11]; decide) ?_
      refine A_aload_n d_223_549 rfl ?_
      refine A_aload_n d_223_550 rfl ?_
      refine A_iload_n d_223_551 rfl ?_
      refine A_iconst d_223_552 (by decide) ?_
      refine A_iadd d_223_553 ?_
      refine A_iald rfl d_223_554 (fun v554 => ?_)
      refine A_aload_n d_223_555 rfl ?_
      refine A_iload_n d_223_556 rfl ?_
      refine A_iconst d_223_557 (by decide) ?_
      refine A_iadd d_223_558 ?_
      refine A_iald rfl d_223_559 (fun v559 => ?_)
      refine A_call (t := 116) (way := 0) rfl d_223_560 rfl (cl kI_7_62 rfl) rfl (by decide) rfl (fun q560 => ?_)
      refine A_aload_n d_223_563 rfl ?_
      refine A_aload_n d_223_564 rfl ?_
      refine A_iload_n d_223_565 rfl ?_
      refine A_iconst d_223_566 (by decide) ?_
      refine A_iadd d_223_567 ?_
      refine A_iald rfl d_223_568 (fun v568 => ?_)
      refine A_aload_n d_223_569 rfl ?_
      refine A_iload_n d_223_570 rfl ?_
      refine A_iconst d_223_571 (by decide) ?_
      refine A_iadd d_223_572 ?_
      refine A_iald rfl d_223_573 (fun v573 => ?_)
      refine A_call (t := 173) (way := 0) rfl d_223_574 rfl (cl kI_7_65 rfl) rfl (by decide) rfl (fun q574 => ?_)
      refine A_eq (t := 934) d_223_577 (by decide) ?_ ?_
      · exact rfl
      · refine A_iconst d_223_580 (by decide) ?_
        exact A_iretz rfl d_223_581 (by decide)
    refine A_if (fun e33_12 => ?_) (fun e33_12 => ?_)
    · refine A_tab (t := 582) d_223_33 (by rw [e33_12]; decide) ?_
      refine A_aload_n d_223_582 rfl ?_
      refine A_call (t := 117) (way := 0) rfl d_223_583 rfl (cl kI_7_66 rfl) rfl (by decide) rfl (fun q583 => ?_)
      refine A_aload_n d_223_586 rfl ?_
      refine A_call (t := 174) (way := 0) rfl d_223_587 rfl (cl kI_7_69 rfl) rfl (by decide) rfl (fun q587 => ?_)
      refine A_eq (t := 934) d_223_590 (by decide) ?_ ?_
      · exact rfl
      · refine A_iconst d_223_593 (by decide) ?_
        exact A_iretz rfl d_223_594 (by decide)
    refine A_if (fun e33_13 => ?_) (fun e33_13 => ?_)
    · refine A_tab (t := 595) d_223_33 (by rw [e33_13]; decide) ?_
      refine A_aload_n d_223_595 rfl ?_
      refine A_aload_n d_223_596 rfl ?_
      refine A_iload_n d_223_597 rfl ?_
      refine A_iconst d_223_598 (by decide) ?_
      refine A_iadd d_223_599 ?_
      refine A_iald rfl d_223_600 (fun v600 => ?_)
      refine A_call (t := 118) (way := 0) rfl d_223_601 rfl (cl kI_7_70 rfl) rfl (by decide) rfl (fun q601 => ?_)
      refine A_aload_n d_223_604 rfl ?_
      refine A_aload_n d_223_605 rfl ?_
      refine A_iload_n d_223_606 rfl ?_
      refine A_iconst d_223_607 (by decide) ?_
      refine A_iadd d_223_608 ?_
      refine A_iald rfl d_223_609 (fun v609 => ?_)
      refine A_call (t := 193) (way := 0) rfl d_223_610 rfl (cl kI_7_73 rfl) rfl (by decide) rfl (fun q610 => ?_)
      refine A_eq (t := 934) d_223_613 (by decide) ?_ ?_
      · exact rfl
      · refine A_iconst d_223_616 (by decide) ?_
        exact A_iretz rfl d_223_617 (by decide)
    refine A_if (fun e33_14 => ?_) (fun e33_14 => ?_)
    · refine A_tab (t := 618) d_223_33 (by rw [e33_14]; decide) ?_
      refine A_aload_n d_223_618 rfl ?_
      refine A_aload_n d_223_619 rfl ?_
      refine A_iload_n d_223_620 rfl ?_
      refine A_iconst d_223_621 (by decide) ?_
      refine A_iadd d_223_622 ?_
      refine A_iald rfl d_223_623 (fun v623 => ?_)
      refine A_call (t := 119) (way := 0) rfl d_223_624 rfl (cl kI_7_74 rfl) rfl (by decide) rfl (fun q624 => ?_)
      refine A_aload_n d_223_627 rfl ?_
      refine A_aload_n d_223_628 rfl ?_
      refine A_iload_n d_223_629 rfl ?_
      refine A_iconst d_223_630 (by decide) ?_
      refine A_iadd d_223_631 ?_
      refine A_iald rfl d_223_632 (fun v632 => ?_)
      refine A_call (t := 194) (way := 0) rfl d_223_633 rfl (cl kI_7_77 rfl) rfl (by decide) rfl (fun q633 => ?_)
      refine A_eq (t := 934) d_223_636 (by decide) ?_ ?_
      · exact rfl
      · refine A_iconst d_223_639 (by decide) ?_
        exact A_iretz rfl d_223_640 (by decide)
    refine A_if (fun e33_15 => ?_) (fun e33_15 => ?_)
    · refine A_tab (t := 641) d_223_33 (by rw [e33_15]; decide) ?_
      refine A_aload_n d_223_641 rfl ?_
      refine A_aload_n d_223_642 rfl ?_
      refine A_iload_n d_223_643 rfl ?_
      refine A_iconst d_223_644 (by decide) ?_
      refine A_iadd d_223_645 ?_
      refine A_iald rfl d_223_646 (fun v646 => ?_)
      refine A_aload_n d_223_647 rfl ?_
      refine A_iload_n d_223_648 rfl ?_
      refine A_iconst d_223_649 (by decide) ?_
      refine A_iadd d_223_650 ?_
      refine A_iald rfl d_223_651 (fun v651 => ?_)
      refine A_aload_n d_223_652 rfl ?_
      refine A_iload_n d_223_653 rfl ?_
      refine A_iconst d_223_654 (by decide) ?_
      refine A_iadd d_223_655 ?_
      refine A_iald rfl d_223_656 (fun v656 => ?_)
      refine A_call (t := 120) (way := 0) rfl d_223_657 rfl (cl kI_7_78 rfl) rfl (by decide) rfl (fun q657 => ?_)
      refine A_aload_n d_223_660 rfl ?_
      refine A_aload_n d_223_661 rfl ?_
      refine A_iload_n d_223_662 rfl ?_
      refine A_iconst d_223_663 (by decide) ?_
      refine A_iadd d_223_664 ?_
      refine A_iald rfl d_223_665 (fun v665 => ?_)
      refine A_aload_n d_223_666 rfl ?_
      refine A_iload_n d_223_667 rfl ?_
      refine A_iconst d_223_668 (by decide) ?_
      refine A_iadd d_223_669 ?_
      refine A_iald rfl d_223_670 (fun v670 => ?_)
      refine A_aload_n d_223_671 rfl ?_
      refine A_iload_n d_223_672 rfl ?_
      refine A_iconst d_223_673 (by decide) ?_
      refine A_iadd d_223_674 ?_
      refine A_iald rfl d_223_675 (fun v675 => ?_)
      refine A_call (t := 195) (way := 0) rfl d_223_676 rfl (cl kI_7_81 rfl) rfl (by decide) rfl (fun q676 => ?_)
      refine A_eq (t := 934) d_223_679 (by decide) ?_ ?_
      · exact rfl
      · refine A_iconst d_223_682 (by decide) ?_
        exact A_iretz rfl d_223_683 (by decide)
    refine A_if (fun e33_16 => ?_) (fun e33_16 => ?_)
    · refine A_tab (t := 684) d_223_33 (by rw [e33_16]; decide) ?_
      refine A_aload_n d_223_684 rfl ?_
      refine A_call (t := 121) (way := 0) rfl d_223_685 rfl (cl kI_7_82 rfl) rfl (by decide) rfl (fun q685 => ?_)
      refine A_aload_n d_223_688 rfl ?_
      refine A_call (t := 197) (way := 0) rfl d_223_689 rfl (cl kI_7_85 rfl) rfl (by decide) rfl (fun q689 => ?_)
      refine A_eq (t := 934) d_223_692 (by decide) ?_ ?_
      · exact rfl
      · refine A_iconst d_223_695 (by decide) ?_
        exact A_iretz rfl d_223_696 (by decide)
    refine A_if (fun e33_17 => ?_) (fun e33_17 => ?_)
    · refine A_tab (t := 697) d_223_33 (by rw [e33_17]; decide) ?_
      refine A_aload_n d_223_697 rfl ?_
      refine A_aload_n d_223_698 rfl ?_
      refine A_iload_n d_223_699 rfl ?_
      refine A_iconst d_223_700 (by decide) ?_
      refine A_iadd d_223_701 ?_
      refine A_iald rfl d_223_702 (fun v702 => ?_)
      refine A_call (t := 122) (way := 0) rfl d_223_703 rfl (cl kI_7_86 rfl) rfl (by decide) rfl (fun q703 => ?_)
      refine A_aload_n d_223_706 rfl ?_
      refine A_aload_n d_223_707 rfl ?_
      refine A_iload_n d_223_708 rfl ?_
      refine A_iconst d_223_709 (by decide) ?_
      refine A_iadd d_223_710 ?_
      refine A_iald rfl d_223_711 (fun v711 => ?_)
      refine A_call (t := 198) (way := 0) rfl d_223_712 rfl (cl kI_7_89 rfl) rfl (by decide) rfl (fun q712 => ?_)
      refine A_eq (t := 934) d_223_715 (by decide) ?_ ?_
      · exact rfl
      · refine A_iconst d_223_718 (by decide) ?_
        exact A_iretz rfl d_223_719 (by decide)
    refine A_if (fun e33_18 => ?_) (fun e33_18 => ?_)
    · refine A_tab (t := 720) d_223_33 (by rw [e33_18]; decide) ?_
      refine A_aload_n d_223_720 rfl ?_
      refine A_aload_n d_223_721 rfl ?_
      refine A_iload_n d_223_722 rfl ?_
      refine A_iconst d_223_723 (by decide) ?_
      refine A_iadd d_223_724 ?_
      refine A_iald rfl d_223_725 (fun v725 => ?_)
      refine A_aload_n d_223_726 rfl ?_
      refine A_iload_n d_223_727 rfl ?_
      refine A_iconst d_223_728 (by decide) ?_
      refine A_iadd d_223_729 ?_
      refine A_iald rfl d_223_730 (fun v730 => ?_)
      refine A_call (t := 123) (way := 0) rfl d_223_731 rfl (cl kI_7_90 rfl) rfl (by decide) rfl (fun q731 => ?_)
      refine A_aload_n d_223_734 rfl ?_
      refine A_aload_n d_223_735 rfl ?_
      refine A_iload_n d_223_736 rfl ?_
      refine A_iconst d_223_737 (by decide) ?_
      refine A_iadd d_223_738 ?_
      refine A_iald rfl d_223_739 (fun v739 => ?_)
      refine A_aload_n d_223_740 rfl ?_
      refine A_iload_n d_223_741 rfl ?_
      refine A_iconst d_223_742 (by decide) ?_
      refine A_iadd d_223_743 ?_
      refine A_iald rfl d_223_744 (fun v744 => ?_)
      refine A_call (t := 199) (way := 0) rfl d_223_745 rfl (cl kI_7_93 rfl) rfl (by decide) rfl (fun q745 => ?_)
      refine A_eq (t := 934) d_223_748 (by decide) ?_ ?_
      · exact rfl
      · refine A_iconst d_223_751 (by decide) ?_
        exact A_iretz rfl d_223_752 (by decide)
    refine A_if (fun e33_19 => ?_) (fun e33_19 => ?_)
    · refine A_tab (t := 753) d_223_33 (by rw [e33_19]; decide) ?_
      refine A_aload_n d_223_753 rfl ?_
      refine A_call (t := 124) (way := 0) rfl d_223_754 rfl (cl kI_7_94 rfl) rfl (by decide) rfl (fun q754 => ?_)
      refine A_aload_n d_223_757 rfl ?_
      refine A_call (t := 200) (way := 0) rfl d_223_758 rfl (cl kI_7_97 rfl) rfl (by decide) rfl (fun q758 => ?_)
      refine A_eq (t := 934) d_223_761 (by decide) ?_ ?_
      · exact rfl
      · refine A_iconst d_223_764 (by decide) ?_
        exact A_iretz rfl d_223_765 (by decide)
    refine A_if (fun e33_20 => ?_) (fun e33_20 => ?_)
    · refine A_tab (t := 766) d_223_33 (by rw [e33_20]; decide) ?_
      refine A_aload_n d_223_766 rfl ?_
      refine A_aload_n d_223_767 rfl ?_
      refine A_iload_n d_223_768 rfl ?_
      refine A_iconst d_223_769 (by decide) ?_
      refine A_iadd d_223_770 ?_
      refine A_iald rfl d_223_771 (fun v771 => ?_)
      refine A_aload_n d_223_772 rfl ?_
      refine A_iload_n d_223_773 rfl ?_
      refine A_iconst d_223_774 (by decide) ?_
      refine A_iadd d_223_775 ?_
      refine A_iald rfl d_223_776 (fun v776 => ?_)
      refine A_call (t := 125) (way := 0) rfl d_223_777 rfl (cl kI_7_98 rfl) rfl (by decide) rfl (fun q777 => ?_)
      refine A_aload_n d_223_780 rfl ?_
      refine A_aload_n d_223_781 rfl ?_
      refine A_iload_n d_223_782 rfl ?_
      refine A_iconst d_223_783 (by decide) ?_
      refine A_iadd d_223_784 ?_
      refine A_iald rfl d_223_785 (fun v785 => ?_)
      refine A_aload_n d_223_786 rfl ?_
      refine A_iload_n d_223_787 rfl ?_
      refine A_iconst d_223_788 (by decide) ?_
      refine A_iadd d_223_789 ?_
      refine A_iald rfl d_223_790 (fun v790 => ?_)
      refine A_call (t := 201) (way := 0) rfl d_223_791 rfl (cl kI_7_101 rfl) rfl (by decide) rfl (fun q791 => ?_)
      refine A_eq (t := 934) d_223_794 (by decide) ?_ ?_
      · exact rfl
      · refine A_iconst d_223_797 (by decide) ?_
        exact A_iretz rfl d_223_798 (by decide)
    refine A_if (fun e33_21 => ?_) (fun e33_21 => ?_)
    · refine A_tab (t := 799) d_223_33 (by rw [e33_21]; decide) ?_
      refine A_aload_n d_223_799 rfl ?_
      refine A_aload_n d_223_800 rfl ?_
      refine A_iload_n d_223_801 rfl ?_
      refine A_iconst d_223_802 (by decide) ?_
      refine A_iadd d_223_803 ?_
      refine A_iald rfl d_223_804 (fun v804 => ?_)
      refine A_aload_n d_223_805 rfl ?_
      refine A_iload_n d_223_806 rfl ?_
      refine A_iconst d_223_807 (by decide) ?_
      refine A_iadd d_223_808 ?_
      refine A_iald rfl d_223_809 (fun v809 => ?_)
      refine A_aload_n d_223_810 rfl ?_
      refine A_iload_n d_223_811 rfl ?_
      refine A_iconst d_223_812 (by decide) ?_
      refine A_iadd d_223_813 ?_
      refine A_iald rfl d_223_814 (fun v814 => ?_)
      refine A_call (t := 127) (way := 0) rfl d_223_815 rfl (cl kI_7_102 rfl) rfl (by decide) rfl (fun q815 => ?_)
      refine A_aload_n d_223_818 rfl ?_
      refine A_aload_n d_223_819 rfl ?_
      refine A_iload_n d_223_820 rfl ?_
      refine A_iconst d_223_821 (by decide) ?_
      refine A_iadd d_223_822 ?_
      refine A_iald rfl d_223_823 (fun v823 => ?_)
      refine A_aload_n d_223_824 rfl ?_
      refine A_iload_n d_223_825 rfl ?_
      refine A_iconst d_223_826 (by decide) ?_
      refine A_iadd d_223_827 ?_
      refine A_iald rfl d_223_828 (fun v828 => ?_)
      refine A_aload_n d_223_829 rfl ?_
      refine A_iload_n d_223_830 rfl ?_
      refine A_iconst d_223_831 (by decide) ?_
      refine A_iadd d_223_832 ?_
      refine A_iald rfl d_223_833 (fun v833 => ?_)
      refine A_call (t := 217) (way := 0) rfl d_223_834 rfl (cl kI_7_105 rfl) rfl (by decide) rfl (fun q834 => ?_)
      refine A_eq (t := 934) d_223_837 (by decide) ?_ ?_
      · exact rfl
      · refine A_iconst d_223_840 (by decide) ?_
        exact A_iretz rfl d_223_841 (by decide)
    refine A_if (fun e33_22 => ?_) (fun e33_22 => ?_)
    · refine A_tab (t := 842) d_223_33 (by rw [e33_22]; decide) ?_
      refine A_aload_n d_223_842 rfl ?_
      refine A_aload_n d_223_843 rfl ?_
      refine A_iload_n d_223_844 rfl ?_
      refine A_iconst d_223_845 (by decide) ?_
      refine A_iadd d_223_846 ?_
      refine A_iald rfl d_223_847 (fun v847 => ?_)
      refine A_aload_n d_223_848 rfl ?_
      refine A_iload_n d_223_849 rfl ?_
      refine A_iconst d_223_850 (by decide) ?_
      refine A_iadd d_223_851 ?_
      refine A_iald rfl d_223_852 (fun v852 => ?_)
      refine A_aload_n d_223_853 rfl ?_
      refine A_iload_n d_223_854 rfl ?_
      refine A_iconst d_223_855 (by decide) ?_
      refine A_iadd d_223_856 ?_
      refine A_iald rfl d_223_857 (fun v857 => ?_)
      refine A_call (t := 128) (way := 0) rfl d_223_858 rfl (cl kI_7_106 rfl) rfl (by decide) rfl (fun q858 => ?_)
      refine A_aload_n d_223_861 rfl ?_
      refine A_aload_n d_223_862 rfl ?_
      refine A_iload_n d_223_863 rfl ?_
      refine A_iconst d_223_864 (by decide) ?_
      refine A_iadd d_223_865 ?_
      refine A_iald rfl d_223_866 (fun v866 => ?_)
      refine A_aload_n d_223_867 rfl ?_
      refine A_iload_n d_223_868 rfl ?_
      refine A_iconst d_223_869 (by decide) ?_
      refine A_iadd d_223_870 ?_
      refine A_iald rfl d_223_871 (fun v871 => ?_)
      refine A_aload_n d_223_872 rfl ?_
      refine A_iload_n d_223_873 rfl ?_
      refine A_iconst d_223_874 (by decide) ?_
      refine A_iadd d_223_875 ?_
      refine A_iald rfl d_223_876 (fun v876 => ?_)
      refine A_call (t := 218) (way := 0) rfl d_223_877 rfl (cl kI_7_109 rfl) rfl (by decide) rfl (fun q877 => ?_)
      refine A_eq (t := 934) d_223_880 (by decide) ?_ ?_
      · exact rfl
      · refine A_iconst d_223_883 (by decide) ?_
        exact A_iretz rfl d_223_884 (by decide)
    refine A_if (fun e33_23 => ?_) (fun e33_23 => ?_)
    · refine A_tab (t := 885) d_223_33 (by rw [e33_23]; decide) ?_
      refine A_aload_n d_223_885 rfl ?_
      refine A_call (t := 131) (way := 0) rfl d_223_886 rfl (cl kI_7_110 rfl) rfl (by decide) rfl (fun q886 => ?_)
      refine A_aload_n d_223_889 rfl ?_
      refine A_call (t := 219) (way := 0) rfl d_223_890 rfl (cl kI_7_113 rfl) rfl (by decide) rfl (fun q890 => ?_)
      refine A_eq (t := 934) d_223_893 (by decide) ?_ ?_
      · exact rfl
      · refine A_iconst d_223_896 (by decide) ?_
        exact A_iretz rfl d_223_897 (by decide)
    refine A_if (fun e33_24 => ?_) (fun e33_24 => ?_)
    · refine A_tab (t := 898) d_223_33 (by rw [e33_24]; decide) ?_
      refine A_aload_n d_223_898 rfl ?_
      refine A_call (t := 132) (way := 0) rfl d_223_899 rfl (cl kI_7_114 rfl) rfl (by decide) rfl (fun q899 => ?_)
      refine A_aload_n d_223_902 rfl ?_
      refine A_call (t := 220) (way := 0) rfl d_223_903 rfl (cl kI_7_117 rfl) rfl (by decide) rfl (fun q903 => ?_)
      refine A_eq (t := 934) d_223_906 (by decide) ?_ ?_
      · exact rfl
      · refine A_iconst d_223_909 (by decide) ?_
        exact A_iretz rfl d_223_910 (by decide)
    refine A_if (fun e33_25 => ?_) (fun e33_25 => ?_)
    · refine A_tab (t := 911) d_223_33 (by rw [e33_25]; decide) ?_
      refine A_aload_n d_223_911 rfl ?_
      refine A_aload_n d_223_912 rfl ?_
      refine A_iload_n d_223_913 rfl ?_
      refine A_iconst d_223_914 (by decide) ?_
      refine A_iadd d_223_915 ?_
      refine A_iald rfl d_223_916 (fun v916 => ?_)
      refine A_call (t := 133) (way := 0) rfl d_223_917 rfl (cl kI_7_118 rfl) rfl (by decide) rfl (fun q917 => ?_)
      refine A_aload_n d_223_920 rfl ?_
      refine A_aload_n d_223_921 rfl ?_
      refine A_iload_n d_223_922 rfl ?_
      refine A_iconst d_223_923 (by decide) ?_
      refine A_iadd d_223_924 ?_
      refine A_iald rfl d_223_925 (fun v925 => ?_)
      refine A_call (t := 221) (way := 0) rfl d_223_926 rfl (cl kI_7_121 rfl) rfl (by decide) rfl (fun q926 => ?_)
      refine A_eq (t := 934) d_223_929 (by decide) ?_ ?_
      · exact rfl
      · refine A_iconst d_223_932 (by decide) ?_
        exact A_iretz rfl d_223_933 (by decide)
    refine A_tab (t := 934) d_223_33 (by rw [if_pos (by omega)]; decide) ?_
    exact rfl
set_option maxRecDepth 20000 in
theorem q_Lw_law_934 (a0 : Nat) (a1 : Nat) (a2 : Nat) (x3 : Int) (h : mH) : B_Lw_law_934 a0 a1 a2 x3 h =
  B_Lw_law_18 a0 a1 a2 (w32 (x3 + 7)) h := by
  unfold B_Lw_law_934
  refine A_iinc d_223_934 (by decide) rfl rfl ?_
  refine A_goto (t := 18) d_223_937 (by decide) ?_
  exact rfl
set_option maxRecDepth 20000 in
theorem q_Lw_law (a0 : Nat) (h : mH) : F_Lw_law a0 h =
  (F_Tb_init h.1.length (mnew h 5 (nfld 5))).bind fun h4 =>
  (F_Md_init h4.1.length (mnew h4 6 (nfld 6))).bind fun h12 =>
  B_Lw_law_18 a0 h.1.length h4.1.length 0 h12 := by
  refine (congrArg asI (if_pos rfl)).trans ?_
  show asI (Lim 223 0 [some (.inr (.inr a0)), none, none, none] [] h) = _
  refine A_new d_223_0 kN_7_7 ?_
  refine A_dup d_223_3 rfl ?_
  refine A_callU (t := 104) (way := 1) rfl d_223_4 rfl (cls kI_7_9 rfl) rfl rfl rfl (fun h4 => ?_)
  refine A_astore_n d_223_7 rfl ?_
  refine A_new d_223_8 kN_7_10 ?_
  refine A_dup d_223_11 rfl ?_
  refine A_callU (t := 134) (way := 1) rfl d_223_12 rfl (cls kI_7_12 rfl) rfl rfl rfl (fun h12 => ?_)
  refine A_astore_n d_223_15 rfl ?_
  refine A_iconst d_223_16 (by decide) ?_
  refine A_istore_n d_223_17 rfl ?_
  exact rfl

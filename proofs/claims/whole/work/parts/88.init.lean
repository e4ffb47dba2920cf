/-! constructors and the law as functions (by program) -/
/-- a call's arguments, by its link: a constructor -/
theorem cls {m k t : Nat} {st : List mV} {q : Nat × List mV × List mV} (h : invOf (mown m) k = some (1, t)) (e : (if mpar t + 1 ≤ st.length ∧ catS (st.drop (mpar t + 1)) ≤ 8 ∧ mdep t < mdep m ∧ (argL (st.take (mpar t + 1)).reverse).length ≤ mmax t then some (t, (st.take (mpar t + 1)).reverse, st.drop (mpar t + 1)) else none) = some q) : callOf m (.invokespecial k) st = some q := by
  simp only [callOf, h]
  exact e
theorem cls3 {m k t : Nat} {st : List mV} {q : Nat × List mV × List mV} (h : invOf (mown m) k = some (3, t)) (e : (if mpar t + 1 ≤ st.length ∧ catS (st.drop (mpar t + 1)) ≤ 8 ∧ mdep t < mdep m ∧ (argL (st.take (mpar t + 1)).reverse).length ≤ mmax t then some (t, (st.take (mpar t + 1)).reverse, st.drop (mpar t + 1)) else none) = some q) : callOf m (.invokespecial k) st = some q := by
  simp only [callOf, h]
  exact e
def gz (n : Int) : Option Unit := if 0 ≤ n ∧ n ≤ 100 then some () else none
section Laws2
variable {m pc len : Nat} {ls ls' : mL} {st : List mV} {h : mH} {ins : Instr} {β : Type} {R : Option β} {K : mR → Option β}
theorem A_grid {n1 n2 : Int} {R : Unit → Option β} (hK : K none = none) (d : decode (codeOf m) pc = .ok (.multianewarray 9 2, 4)) (hm : mown m = 3) (hn : 0 ≤ n2 ∧ n2 ≤ 1000) (e : K (Lim m (pc + 4) ls (.inr (.inr h.1.length) :: st) (mgrd h n1.toNat n2.toNat)) = R ()) : K (Lim m pc ls (.inl n2 :: .inl n1 :: st) h) = (gz n1).bind R := by
  refine A_o (g := fun _ => (pc + 4, ls, .inr (.inr h.1.length) :: st, mgrd h n1.toNat n2.toNat)) hK d (Or.inl rfl) rfl rfl ?_ (fun _ => e)
  unfold gz
  simp only [pstep, hm]
  by_cases q : 0 ≤ n1 ∧ n1 ≤ 100
  · rw [if_pos q, if_pos ⟨trivial, trivial, trivial, q.1, q.2, hn⟩]
    rfl
  · rw [if_neg q, if_neg (fun z => q ⟨z.2.2.2.1, z.2.2.2.2.1⟩)]
    rfl
theorem A_slen {k t : Nat} {R : Int → Option β} (hK : K none = none) (d : decode (codeOf m) pc = .ok (.invokevirtual k, 3)) (hk : invOf (mown m) k = some (6, t)) (hc : catS st ≤ 8 ∧ 2 ≤ mdep m) (e : ∀ x, K (Lim m (pc + 3) ls (.inl x :: st) h) = R x) : K (Lim m pc ls (.inr (.inr 4) :: st) h) = (aln h 5).bind R :=
  A_o (g := fun x => (pc + 3, ls, .inl x :: st, h)) hK d (Or.inl rfl) rfl (by simp only [callOf, hk]) (by simp only [pstep, hk]; rw [if_pos ⟨trivial, hc⟩]) e
theorem A_sat {k t : Nat} {i : Int} {R : Int → Option β} (hK : K none = none) (d : decode (codeOf m) pc = .ok (.invokevirtual k, 3)) (hk : invOf (mown m) k = some (7, t)) (hc : catS st ≤ 8 ∧ 5 ≤ mdep m) (e : ∀ x, K (Lim m (pc + 3) ls (.inl x :: st) h) = R x) : K (Lim m pc ls (.inl i :: .inr (.inr 4) :: st) h) = (ald 11 h 5 i).bind R :=
  A_o (g := fun x => (pc + 3, ls, .inl x :: st, h)) hK d (Or.inl rfl) rfl (by simp only [callOf, hk]) (by simp only [pstep, hk]; rw [if_pos ⟨trivial, hc⟩]) e
end Laws2
theorem kT_5_52 : strOf 5 52 = some 4 := by decide +kernel
theorem kTn_5_52 : intOf 5 52 = none := by decide +kernel
noncomputable def F_Ck_init (a0 : Nat) (h : mH) : Option mH := cU 1 0 [.inr (.inr a0)] h
noncomputable def F_Mc_init (a0 : Nat) (h : mH) : Option mH := cU 1 26 [.inr (.inr a0)] h
noncomputable def F_Pg_init (a0 : Nat) (h : mH) : Option mH := cU 1 47 [.inr (.inr a0)] h
noncomputable def F_Sh_init (a0 : Nat) (x1 : Int) (h : mH) : Option mH := cU 1 86 [.inr (.inr a0), .inl x1] h
noncomputable def B_Sh_init_14 (a0 : Nat) (x1 : Int) (s0 : Int) (sa1 : Nat) (h : mH) : Option mH := asU (Lim 86 14 [some (.inr (.inr a0)), some (.inl x1)] [.inl s0, .inr (.inr sa1)] h)
noncomputable def F_Tx_init (a0 : Nat) (h : mH) : Option mH := cU 1 90 [.inr (.inr a0)] h
noncomputable def F_Tb_init (a0 : Nat) (h : mH) : Option mH := cU 1 104 [.inr (.inr a0)] h
noncomputable def B_Tb_init_86 (a0 : Nat) (x1 : Int) (h : mH) : Option mH := asU (Lim 104 86 [some (.inr (.inr a0)), some (.inl x1)] [] h)
noncomputable def F_Md_init (a0 : Nat) (h : mH) : Option mH := cU 1 134 [.inr (.inr a0)] h
noncomputable def F_Lw_law (a0 : Nat) (h : mH) : Option (Int × mH) := cI 2 223 [.inr (.inr a0)] h
noncomputable def B_Lw_law_18 (a0 : Nat) (a1 : Nat) (a2 : Nat) (x3 : Int) (h : mH) : Option (Int × mH) := asI (Lim 223 18 [some (.inr (.inr a0)), some (.inr (.inr a1)), some (.inr (.inr a2)), some (.inl x3)] [] h)
noncomputable def B_Lw_law_934 (a0 : Nat) (a1 : Nat) (a2 : Nat) (x3 : Int) (h : mH) : Option (Int × mH) := asI (Lim 223 934 [some (.inr (.inr a0)), some (.inr (.inr a1)), some (.inr (.inr a2)), some (.inl x3)] [] h)
set_option maxRecDepth 20000 in
theorem q_Ck_init (a0 : Nat) (h : mH) (ho : a0 ≠ 0) : F_Ck_init a0 h =
  (F_Pg_init h.1.length (mnew h 2 (nfld 2))).bind fun h9 =>
  (pfd 0 0 h9 a0 ((h.1.length : Nat) : Int)).bind fun h12 =>
  (pfd 0 1 (mnew h12 10 (4 : Int).toNat) a0 ((h12.1.length : Nat) : Int)).bind fun h19 =>
  (pfd 0 2 (mnew h19 10 (6 : Int).toNat) a0 ((h19.1.length : Nat) : Int)).bind fun h27 =>
  (pfd 0 3 (mnew h27 10 (4 : Int).toNat) a0 ((h27.1.length : Nat) : Int)).bind fun h34 =>
  (pfd 0 4 (mnew h34 12 (16 : Int).toNat) a0 ((h34.1.length : Nat) : Int)).bind fun h42 =>
  some h42 := by
  refine (congrArg asU (if_pos (decide_eq_true ho))).trans ?_
  show asU (Lim 0 0 [some (.inr (.inr a0))] [] h) = _
  refine A_aload_n d_0_0 rfl ?_
  refine A_oinit d_0_1 kI_0_3 ⟨ho, by decide, by decide⟩ ?_
  refine A_aload_n d_0_4 rfl ?_
  refine A_new d_0_5 kN_0_9 ?_
  refine A_dup d_0_8 rfl ?_
  refine A_callU (t := 47) (way := 1) rfl d_0_9 rfl (cls3 kI_0_11 rfl) rfl rfl rfl (fun h9 => ?_)
  refine A_putfA rfl d_0_12 kF_0_12 rfl (fun h12 => ?_)
  refine A_aload_n d_0_15 rfl ?_
  refine A_iconst d_0_16 (by decide) ?_
  refine A_newI d_0_17 (by decide) ?_
  refine A_putfA rfl d_0_19 kF_0_18 rfl (fun h19 => ?_)
  refine A_aload_n d_0_22 rfl ?_
  refine A_bipush d_0_23 (by decide) ?_
  refine A_newI d_0_25 (by decide) ?_
  refine A_putfA rfl d_0_27 kF_0_22 rfl (fun h27 => ?_)
  refine A_aload_n d_0_30 rfl ?_
  refine A_iconst d_0_31 (by decide) ?_
  refine A_newI d_0_32 (by decide) ?_
  refine A_putfA rfl d_0_34 kF_0_25 rfl (fun h34 => ?_)
  refine A_aload_n d_0_37 rfl ?_
  refine A_bipush d_0_38 (by decide) ?_
  refine A_newZ d_0_40 (by decide) ?_
  refine A_putfA rfl d_0_42 kF_0_28 rfl (fun h42 => ?_)
  exact A_ret rfl d_0_45
set_option maxRecDepth 20000 in
theorem q_Mc_init (a0 : Nat) (h : mH) (ho : a0 ≠ 0) : F_Mc_init a0 h =
  (F_Pg_init h.1.length (mnew h 2 (nfld 2))).bind fun h9 =>
  (pfd 1 0 h9 a0 ((h.1.length : Nat) : Int)).bind fun h12 =>
  (pfd 1 1 (mnew h12 10 (4 : Int).toNat) a0 ((h12.1.length : Nat) : Int)).bind fun h19 =>
  (pfd 1 2 (mnew h19 10 (16 : Int).toNat) a0 ((h19.1.length : Nat) : Int)).bind fun h27 =>
  (pfd 1 3 (mnew h27 10 (12 : Int).toNat) a0 ((h27.1.length : Nat) : Int)).bind fun h35 =>
  (pfd 1 4 (mnew h35 10 (36 : Int).toNat) a0 ((h35.1.length : Nat) : Int)).bind fun h43 =>
  some h43 := by
  refine (congrArg asU (if_pos (decide_eq_true ho))).trans ?_
  show asU (Lim 26 0 [some (.inr (.inr a0))] [] h) = _
  refine A_aload_n d_26_0 rfl ?_
  refine A_oinit d_26_1 kI_1_5 ⟨ho, by decide, by decide⟩ ?_
  refine A_aload_n d_26_4 rfl ?_
  refine A_new d_26_5 kN_1_11 ?_
  refine A_dup d_26_8 rfl ?_
  refine A_callU (t := 47) (way := 1) rfl d_26_9 rfl (cls3 kI_1_13 rfl) rfl rfl rfl (fun h9 => ?_)
  refine A_putfA rfl d_26_12 kF_1_14 rfl (fun h12 => ?_)
  refine A_aload_n d_26_15 rfl ?_
  refine A_iconst d_26_16 (by decide) ?_
  refine A_newI d_26_17 (by decide) ?_
  refine A_putfA rfl d_26_19 kF_1_18 rfl (fun h19 => ?_)
  refine A_aload_n d_26_22 rfl ?_
  refine A_bipush d_26_23 (by decide) ?_
  refine A_newI d_26_25 (by decide) ?_
  refine A_putfA rfl d_26_27 kF_1_22 rfl (fun h27 => ?_)
  refine A_aload_n d_26_30 rfl ?_
  refine A_bipush d_26_31 (by decide) ?_
  refine A_newI d_26_33 (by decide) ?_
  refine A_putfA rfl d_26_35 kF_1_25 rfl (fun h35 => ?_)
  refine A_aload_n d_26_38 rfl ?_
  refine A_bipush d_26_39 (by decide) ?_
  refine A_newI d_26_41 (by decide) ?_
  refine A_putfA rfl d_26_43 kF_1_28 rfl (fun h43 => ?_)
  exact A_ret rfl d_26_46
set_option maxRecDepth 20000 in
theorem q_Pg_init (a0 : Nat) (h : mH) (ho : a0 ≠ 0) : F_Pg_init a0 h =
  (pfd 2 0 (mnew h 10 (154 : Int).toNat) a0 ((h.1.length : Nat) : Int)).bind fun h10 =>
  some h10 := by
  refine (congrArg asU (if_pos (decide_eq_true ho))).trans ?_
  show asU (Lim 47 0 [some (.inr (.inr a0))] [] h) = _
  refine A_aload_n d_47_0 rfl ?_
  refine A_oinit d_47_1 kI_2_5 ⟨ho, by decide, by decide⟩ ?_
  refine A_aload_n d_47_4 rfl ?_
  refine A_sipush d_47_5 (by decide) ?_
  refine A_newI d_47_8 (by decide) ?_
  refine A_putfA rfl d_47_10 kF_2_11 rfl (fun h10 => ?_)
  exact A_ret rfl d_47_13
set_option maxRecDepth 20000 in
theorem q_Sh_init_14 (a0 : Nat) (x1 : Int) (s0 : Int) (sa1 : Nat) (h : mH) : B_Sh_init_14 a0 x1 s0 sa1 h =
  (gz s0).bind fun _ =>
  (pfd 3 0 (mgrd h s0.toNat (154 : Int).toNat) sa1 ((h.1.length : Nat) : Int)).bind fun h21 =>
  some h21 := by
  unfold B_Sh_init_14
  refine A_sipush d_86_14 (by decide) ?_
  refine A_grid rfl d_86_17 rfl (by decide) ?_
  refine A_putfA rfl d_86_21 kF_3_11 rfl (fun h21 => ?_)
  exact A_ret rfl d_86_24
set_option maxRecDepth 20000 in
theorem q_Sh_init (a0 : Nat) (x1 : Int) (h : mH) (ho : a0 ≠ 0) : F_Sh_init a0 x1 h =
  if x1 ≤ 0 then
    (B_Sh_init_14 a0 x1 1 a0 h)
  else
    (B_Sh_init_14 a0 x1 x1 a0 h) := by
  refine (congrArg asU (if_pos (decide_eq_true ho))).trans ?_
  show asU (Lim 86 0 [some (.inr (.inr a0)), some (.inl x1)] [] h) = _
  refine A_aload_n d_86_0 rfl ?_
  refine A_oinit d_86_1 kI_3_1 ⟨ho, by decide, by decide⟩ ?_
  refine A_aload_n d_86_4 rfl ?_
  refine A_iload_n d_86_5 rfl ?_
  refine A_le0 (t := 13) d_86_6 (by decide) ?_ ?_
  · refine A_iconst d_86_13 (by decide) ?_
    exact rfl
  · refine A_iload_n d_86_9 rfl ?_
    refine A_goto (t := 14) d_86_10 (by decide) ?_
    exact rfl
set_option maxRecDepth 20000 in
theorem q_Tx_init (a0 : Nat) (h : mH) (ho : a0 ≠ 0) : F_Tx_init a0 h =
  (F_Pg_init h.1.length (mnew h 2 (nfld 2))).bind fun h9 =>
  (pfd 4 0 h9 a0 ((h.1.length : Nat) : Int)).bind fun h12 =>
  (pfd 4 1 (mnew h12 10 (200 : Int).toNat) a0 ((h12.1.length : Nat) : Int)).bind fun h21 =>
  some h21 := by
  refine (congrArg asU (if_pos (decide_eq_true ho))).trans ?_
  show asU (Lim 90 0 [some (.inr (.inr a0))] [] h) = _
  refine A_aload_n d_90_0 rfl ?_
  refine A_oinit d_90_1 kI_4_3 ⟨ho, by decide, by decide⟩ ?_
  refine A_aload_n d_90_4 rfl ?_
  refine A_new d_90_5 kN_4_9 ?_
  refine A_dup d_90_8 rfl ?_
  refine A_callU (t := 47) (way := 1) rfl d_90_9 rfl (cls3 kI_4_11 rfl) rfl rfl rfl (fun h9 => ?_)
  refine A_putfA rfl d_90_12 kF_4_12 rfl (fun h12 => ?_)
  refine A_aload_n d_90_15 rfl ?_
  refine A_sipush d_90_16 (by decide) ?_
  refine A_newI d_90_19 (by decide) ?_
  refine A_putfA rfl d_90_21 kF_4_18 rfl (fun h21 => ?_)
  exact A_ret rfl d_90_24
set_option maxRecDepth 20000 in
theorem q_Tb_init_86 (a0 : Nat) (x1 : Int) (h : mH) : B_Tb_init_86 a0 x1 h =
  (aln h 5).bind fun v89 =>
  if v89 ≤ x1 then
    ((gfd 5 0 h a0).bind fun v116 =>
    (F_Tx_readAll v116.toNat h).bind fun q119 =>
    (gfd 5 1 q119.2 a0).bind fun v124 =>
    (gfd 5 0 q119.2 a0).bind fun v128 =>
    (gfd 4 0 q119.2 v128.toNat).bind fun v131 =>
    (gfd 2 0 q119.2 v131.toNat).bind fun v134 =>
    (F_Pg_copyFrom v124.toNat v134.toNat q119.2).bind fun h137 =>
    (gfd 5 0 h137 a0).bind fun v141 =>
    (pfd 4 2 h137 v141.toNat 0).bind fun h145 =>
    some h145)
  else
    ((gfd 5 0 h a0).bind fun v96 =>
    (ald 11 h 5 x1).bind fun v102 =>
    (F_Tx_append v96.toNat v102 h).bind fun q105 =>
    B_Tb_init_86 a0 (w32 (x1 + 1)) q105.2) := by
  unfold B_Tb_init_86
  refine A_iload_n d_104_86 rfl ?_
  refine A_ldcS d_104_87 kTn_5_52 kT_5_52 ?_
  refine A_slen rfl d_104_89 kI_5_54 ⟨show (1 : Nat) ≤ 8 by decide, by decide⟩ (fun v89 => ?_)
  refine A_ge (t := 115) d_104_92 (by decide) ?_ ?_
  · refine A_aload_n d_104_115 rfl ?_
    refine A_getfA rfl d_104_116 kF_5_10 (fun v116 => ?_)
    refine A_call (t := 92) (way := 0) rfl d_104_119 rfl (cl kI_5_68 rfl) rfl (by decide) rfl (fun q119 => ?_)
    refine A_pop d_104_122 rfl ?_
    refine A_aload_n d_104_123 rfl ?_
    refine A_getfA rfl d_104_124 kF_5_19 (fun v124 => ?_)
    refine A_aload_n d_104_127 rfl ?_
    refine A_getfA rfl d_104_128 kF_5_10 (fun v128 => ?_)
    refine A_getfA rfl d_104_131 kF_5_71 (fun v131 => ?_)
    refine A_getfA rfl d_104_134 kF_5_74 (fun v134 => ?_)
    refine A_callU (t := 50) (way := 0) rfl d_104_137 rfl (cl kI_5_78 rfl) rfl rfl rfl (fun h137 => ?_)
    refine A_aload_n d_104_140 rfl ?_
    refine A_getfA rfl d_104_141 kF_5_10 (fun v141 => ?_)
    refine A_iconst d_104_144 (by decide) ?_
    refine A_putfI rfl d_104_145 kF_5_82 rfl (fun h145 => ?_)
    exact A_ret rfl d_104_148
  · refine A_aload_n d_104_95 rfl ?_
    refine A_getfA rfl d_104_96 kF_5_10 (fun v96 => ?_)
    refine A_ldcS d_104_99 kTn_5_52 kT_5_52 ?_
    refine A_iload_n d_104_101 rfl ?_
    refine A_sat rfl d_104_102 kI_5_60 ⟨show (1 : Nat) ≤ 8 by decide, by decide⟩ (fun v102 => ?_)
    refine A_call (t := 91) (way := 0) rfl d_104_105 rfl (cl kI_5_64 rfl) rfl (by decide) rfl (fun q105 => ?_)
    refine A_pop d_104_108 rfl ?_
    refine A_iinc d_104_109 (by decide) rfl rfl ?_
    refine A_goto (t := 86) d_104_112 (by decide) ?_
    exact rfl
set_option maxRecDepth 20000 in
theorem q_Tb_init (a0 : Nat) (h : mH) (ho : a0 ≠ 0) : F_Tb_init a0 h =
  (F_Tx_init h.1.length (mnew h 4 (nfld 4))).bind fun h9 =>
  (pfd 5 0 h9 a0 ((h.1.length : Nat) : Int)).bind fun h12 =>
  (F_Pg_init h12.1.length (mnew h12 2 (nfld 2))).bind fun h20 =>
  (pfd 5 1 h20 a0 ((h12.1.length : Nat) : Int)).bind fun h23 =>
  (F_Pg_init h23.1.length (mnew h23 2 (nfld 2))).bind fun h31 =>
  (pfd 5 2 h31 a0 ((h23.1.length : Nat) : Int)).bind fun h34 =>
  (F_Ck_init h34.1.length (mnew h34 0 (nfld 0))).bind fun h42 =>
  (pfd 5 3 h42 a0 ((h34.1.length : Nat) : Int)).bind fun h45 =>
  (F_Mc_init h45.1.length (mnew h45 1 (nfld 1))).bind fun h53 =>
  (pfd 5 4 h53 a0 ((h45.1.length : Nat) : Int)).bind fun h56 =>
  (F_Sh_init h56.1.length 8 (mnew h56 3 (nfld 3))).bind fun h66 =>
  (pfd 5 5 h66 a0 ((h56.1.length : Nat) : Int)).bind fun h69 =>
  (F_Sh_init h69.1.length 2 (mnew h69 3 (nfld 3))).bind fun h78 =>
  (pfd 5 6 h78 a0 ((h69.1.length : Nat) : Int)).bind fun h81 =>
  B_Tb_init_86 a0 0 h81 := by
  refine (congrArg asU (if_pos (decide_eq_true ho))).trans ?_
  show asU (Lim 104 0 [some (.inr (.inr a0)), none] [] h) = _
  refine A_aload_n d_104_0 rfl ?_
  refine A_oinit d_104_1 kI_5_1 ⟨ho, by decide, by decide⟩ ?_
  refine A_aload_n d_104_4 rfl ?_
  refine A_new d_104_5 kN_5_7 ?_
  refine A_dup d_104_8 rfl ?_
  refine A_callU (t := 90) (way := 1) rfl d_104_9 rfl (cls3 kI_5_9 rfl) rfl rfl rfl (fun h9 => ?_)
  refine A_putfA rfl d_104_12 kF_5_10 rfl (fun h12 => ?_)
  refine A_aload_n d_104_15 rfl ?_
  refine A_new d_104_16 kN_5_16 ?_
  refine A_dup d_104_19 rfl ?_
  refine A_callU (t := 47) (way := 1) rfl d_104_20 rfl (cls3 kI_5_18 rfl) rfl rfl rfl (fun h20 => ?_)
  refine A_putfA rfl d_104_23 kF_5_19 rfl (fun h23 => ?_)
  refine A_aload_n d_104_26 rfl ?_
  refine A_new d_104_27 kN_5_16 ?_
  refine A_dup d_104_30 rfl ?_
  refine A_callU (t := 47) (way := 1) rfl d_104_31 rfl (cls3 kI_5_18 rfl) rfl rfl rfl (fun h31 => ?_)
  refine A_putfA rfl d_104_34 kF_5_23 rfl (fun h34 => ?_)
  refine A_aload_n d_104_37 rfl ?_
  refine A_new d_104_38 kN_5_26 ?_
  refine A_dup d_104_41 rfl ?_
  refine A_callU (t := 0) (way := 1) rfl d_104_42 rfl (cls3 kI_5_28 rfl) rfl rfl rfl (fun h42 => ?_)
  refine A_putfA rfl d_104_45 kF_5_29 rfl (fun h45 => ?_)
  refine A_aload_n d_104_48 rfl ?_
  refine A_new d_104_49 kN_5_33 ?_
  refine A_dup d_104_52 rfl ?_
  refine A_callU (t := 26) (way := 1) rfl d_104_53 rfl (cls3 kI_5_35 rfl) rfl rfl rfl (fun h53 => ?_)
  refine A_putfA rfl d_104_56 kF_5_36 rfl (fun h56 => ?_)
  refine A_aload_n d_104_59 rfl ?_
  refine A_new d_104_60 kN_5_40 ?_
  refine A_dup d_104_63 rfl ?_
  refine A_bipush d_104_64 (by decide) ?_
  refine A_callU (t := 86) (way := 1) rfl d_104_66 rfl (cls kI_5_42 rfl) rfl rfl rfl (fun h66 => ?_)
  refine A_putfA rfl d_104_69 kF_5_45 rfl (fun h69 => ?_)
  refine A_aload_n d_104_72 rfl ?_
  refine A_new d_104_73 kN_5_40 ?_
  refine A_dup d_104_76 rfl ?_
  refine A_iconst d_104_77 (by decide) ?_
  refine A_callU (t := 86) (way := 1) rfl d_104_78 rfl (cls kI_5_42 rfl) rfl rfl rfl (fun h78 => ?_)
  refine A_putfA rfl d_104_81 kF_5_49 rfl (fun h81 => ?_)
  refine A_iconst d_104_84 (by decide) ?_
  refine A_istore_n d_104_85 rfl ?_
  exact rfl
set_option maxRecDepth 20000 in
theorem q_Md_init (a0 : Nat) (h : mH) (ho : a0 ≠ 0) : F_Md_init a0 h =
  (pfd 6 1 (mnew h 10 (4 : Int).toNat) a0 ((h.1.length : Nat) : Int)).bind fun h8 =>
  (pfd 6 2 (mnew h8 10 (12 : Int).toNat) a0 ((h8.1.length : Nat) : Int)).bind fun h16 =>
  (pfd 6 4 (mnew h16 10 (4 : Int).toNat) a0 ((h16.1.length : Nat) : Int)).bind fun h23 =>
  (pfd 6 5 (mnew h23 10 (12 : Int).toNat) a0 ((h23.1.length : Nat) : Int)).bind fun h31 =>
  (pfd 6 7 (mnew h31 10 (4 : Int).toNat) a0 ((h31.1.length : Nat) : Int)).bind fun h38 =>
  (pfd 6 8 (mnew h38 10 (12 : Int).toNat) a0 ((h38.1.length : Nat) : Int)).bind fun h46 =>
  (pfd 6 10 (mnew h46 10 (4 : Int).toNat) a0 ((h46.1.length : Nat) : Int)).bind fun h53 =>
  (pfd 6 11 (mnew h53 10 (12 : Int).toNat) a0 ((h53.1.length : Nat) : Int)).bind fun h61 =>
  (pfd 6 12 (mnew h61 10 (120 : Int).toNat) a0 ((h61.1.length : Nat) : Int)).bind fun h69 =>
  (pfd 6 14 (mnew h69 10 (1440 : Int).toNat) a0 ((h69.1.length : Nat) : Int)).bind fun h78 =>
  (pfd 6 18 (mnew h78 11 (200 : Int).toNat) a0 ((h78.1.length : Nat) : Int)).bind fun h87 =>
  (pfd 6 22 (mnew h87 10 (4 : Int).toNat) a0 ((h87.1.length : Nat) : Int)).bind fun h94 =>
  (pfd 6 23 (mnew h94 10 (8 : Int).toNat) a0 ((h94.1.length : Nat) : Int)).bind fun h102 =>
  (pfd 6 28 (mnew h102 10 (4 : Int).toNat) a0 ((h102.1.length : Nat) : Int)).bind fun h109 =>
  (pfd 6 29 (mnew h109 10 (48 : Int).toNat) a0 ((h109.1.length : Nat) : Int)).bind fun h117 =>
  (pfd 6 30 (mnew h117 10 (12 : Int).toNat) a0 ((h117.1.length : Nat) : Int)).bind fun h125 =>
  (pfd 6 31 (mnew h125 10 (16 : Int).toNat) a0 ((h125.1.length : Nat) : Int)).bind fun h133 =>
  (F_Md_begins a0 h133).bind fun h137 =>
  (F_Md_tellsSort a0 2 0 h137).bind fun h143 =>
  (F_Md_tellsSort a0 2 10 h143).bind fun h150 =>
  (F_Md_tellsLabel a0 1111 0 0 h150).bind fun h159 =>
  (F_Md_tells a0 3 1 0 0 h159).bind fun h167 =>
  (F_Md_tells a0 4 1 0 0 h167).bind fun h175 =>
  (F_Md_tells a0 4 1 1 2 h175).bind fun h183 =>
  (F_Md_tells a0 6 1 0 0 h183).bind fun h192 =>
  (F_Md_tells a0 11 1 2 0 h192).bind fun h201 =>
  (F_Md_tellsLabel a0 1018 1 1 h201).bind fun h210 =>
  (gfd 6 11 h210 a0).bind fun v214 =>
  (ast h210 v214.toNat 3 2).bind fun h219 =>
  (F_Md_tells a0 7 1 0 0 h219).bind fun h226 =>
  (F_Md_tells a0 5 0 1 0 h226).bind fun h234 =>
  (F_Md_tells a0 2 0 2 0 h234).bind fun h242 =>
  (F_Md_tells a0 12 3 0 0 h242).bind fun h251 =>
  (F_Md_tellsLabel a0 1000 0 1 h251).bind fun h260 =>
  (F_Md_tells a0 13 0 0 0 h260).bind fun h269 =>
  (F_Md_settles a0 h269).bind fun h273 =>
  some h273 := by
  refine (congrArg asU (if_pos (decide_eq_true ho))).trans ?_
  show asU (Lim 134 0 [some (.inr (.inr a0))] [] h) = _
  refine A_aload_n d_134_0 rfl ?_
  refine A_oinit d_134_1 kI_6_1 ⟨ho, by decide, by decide⟩ ?_
  refine A_aload_n d_134_4 rfl ?_
  refine A_iconst d_134_5 (by decide) ?_
  refine A_newI d_134_6 (by decide) ?_
  refine A_putfA rfl d_134_8 kF_6_7 rfl (fun h8 => ?_)
  refine A_aload_n d_134_11 rfl ?_
  refine A_bipush d_134_12 (by decide) ?_
  refine A_newI d_134_14 (by decide) ?_
  refine A_putfA rfl d_134_16 kF_6_13 rfl (fun h16 => ?_)
  refine A_aload_n d_134_19 rfl ?_
  refine A_iconst d_134_20 (by decide) ?_
  refine A_newI d_134_21 (by decide) ?_
  refine A_putfA rfl d_134_23 kF_6_16 rfl (fun h23 => ?_)
  refine A_aload_n d_134_26 rfl ?_
  refine A_bipush d_134_27 (by decide) ?_
  refine A_newI d_134_29 (by decide) ?_
  refine A_putfA rfl d_134_31 kF_6_19 rfl (fun h31 => ?_)
  refine A_aload_n d_134_34 rfl ?_
  refine A_iconst d_134_35 (by decide) ?_
  refine A_newI d_134_36 (by decide) ?_
  refine A_putfA rfl d_134_38 kF_6_22 rfl (fun h38 => ?_)
  refine A_aload_n d_134_41 rfl ?_
  refine A_bipush d_134_42 (by decide) ?_
  refine A_newI d_134_44 (by decide) ?_
  refine A_putfA rfl d_134_46 kF_6_25 rfl (fun h46 => ?_)
  refine A_aload_n d_134_49 rfl ?_
  refine A_iconst d_134_50 (by decide) ?_
  refine A_newI d_134_51 (by decide) ?_
  refine A_putfA rfl d_134_53 kF_6_28 rfl (fun h53 => ?_)
  refine A_aload_n d_134_56 rfl ?_
  refine A_bipush d_134_57 (by decide) ?_
  refine A_newI d_134_59 (by decide) ?_
  refine A_putfA rfl d_134_61 kF_6_31 rfl (fun h61 => ?_)
  refine A_aload_n d_134_64 rfl ?_
  refine A_bipush d_134_65 (by decide) ?_
  refine A_newI d_134_67 (by decide) ?_
  refine A_putfA rfl d_134_69 kF_6_34 rfl (fun h69 => ?_)
  refine A_aload_n d_134_72 rfl ?_
  refine A_sipush d_134_73 (by decide) ?_
  refine A_newI d_134_76 (by decide) ?_
  refine A_putfA rfl d_134_78 kF_6_37 rfl (fun h78 => ?_)
  refine A_aload_n d_134_81 rfl ?_
  refine A_sipush d_134_82 (by decide) ?_
  refine A_newB d_134_85 (by decide) ?_
  refine A_putfA rfl d_134_87 kF_6_40 rfl (fun h87 => ?_)
  refine A_aload_n d_134_90 rfl ?_
  refine A_iconst d_134_91 (by decide) ?_
  refine A_newI d_134_92 (by decide) ?_
  refine A_putfA rfl d_134_94 kF_6_44 rfl (fun h94 => ?_)
  refine A_aload_n d_134_97 rfl ?_
  refine A_bipush d_134_98 (by decide) ?_
  refine A_newI d_134_100 (by decide) ?_
  refine A_putfA rfl d_134_102 kF_6_47 rfl (fun h102 => ?_)
  refine A_aload_n d_134_105 rfl ?_
  refine A_iconst d_134_106 (by decide) ?_
  refine A_newI d_134_107 (by decide) ?_
  refine A_putfA rfl d_134_109 kF_6_50 rfl (fun h109 => ?_)
  refine A_aload_n d_134_112 rfl ?_
  refine A_bipush d_134_113 (by decide) ?_
  refine A_newI d_134_115 (by decide) ?_
  refine A_putfA rfl d_134_117 kF_6_53 rfl (fun h117 => ?_)
  refine A_aload_n d_134_120 rfl ?_
  refine A_bipush d_134_121 (by decide) ?_
  refine A_newI d_134_123 (by decide) ?_
  refine A_putfA rfl d_134_125 kF_6_56 rfl (fun h125 => ?_)
  refine A_aload_n d_134_128 rfl ?_
  refine A_bipush d_134_129 (by decide) ?_
  refine A_newI d_134_131 (by decide) ?_
  refine A_putfA rfl d_134_133 kF_6_59 rfl (fun h133 => ?_)
  refine A_aload_n d_134_136 rfl ?_
  refine A_callU (t := 138) (way := 0) rfl d_134_137 rfl (cl kI_6_62 rfl) rfl rfl rfl (fun h137 => ?_)
  refine A_aload_n d_134_140 rfl ?_
  refine A_iconst d_134_141 (by decide) ?_
  refine A_iconst d_134_142 (by decide) ?_
  refine A_callU (t := 139) (way := 0) rfl d_134_143 rfl (cl kI_6_65 rfl) rfl rfl rfl (fun h143 => ?_)
  refine A_aload_n d_134_146 rfl ?_
  refine A_iconst d_134_147 (by decide) ?_
  refine A_bipush d_134_148 (by decide) ?_
  refine A_callU (t := 139) (way := 0) rfl d_134_150 rfl (cl kI_6_65 rfl) rfl rfl rfl (fun h150 => ?_)
  refine A_aload_n d_134_153 rfl ?_
  refine A_sipush d_134_154 (by decide) ?_
  refine A_iconst d_134_157 (by decide) ?_
  refine A_iconst d_134_158 (by decide) ?_
  refine A_callU (t := 140) (way := 0) rfl d_134_159 rfl (cl kI_6_69 rfl) rfl rfl rfl (fun h159 => ?_)
  refine A_aload_n d_134_162 rfl ?_
  refine A_iconst d_134_163 (by decide) ?_
  refine A_iconst d_134_164 (by decide) ?_
  refine A_iconst d_134_165 (by decide) ?_
  refine A_iconst d_134_166 (by decide) ?_
  refine A_callU (t := 141) (way := 0) rfl d_134_167 rfl (cl kI_6_73 rfl) rfl rfl rfl (fun h167 => ?_)
  refine A_aload_n d_134_170 rfl ?_
  refine A_iconst d_134_171 (by decide) ?_
  refine A_iconst d_134_172 (by decide) ?_
  refine A_iconst d_134_173 (by decide) ?_
  refine A_iconst d_134_174 (by decide) ?_
  refine A_callU (t := 141) (way := 0) rfl d_134_175 rfl (cl kI_6_73 rfl) rfl rfl rfl (fun h175 => ?_)
  refine A_aload_n d_134_178 rfl ?_
  refine A_iconst d_134_179 (by decide) ?_
  refine A_iconst d_134_180 (by decide) ?_
  refine A_iconst d_134_181 (by decide) ?_
  refine A_iconst d_134_182 (by decide) ?_
  refine A_callU (t := 141) (way := 0) rfl d_134_183 rfl (cl kI_6_73 rfl) rfl rfl rfl (fun h183 => ?_)
  refine A_aload_n d_134_186 rfl ?_
  refine A_bipush d_134_187 (by decide) ?_
  refine A_iconst d_134_189 (by decide) ?_
  refine A_iconst d_134_190 (by decide) ?_
  refine A_iconst d_134_191 (by decide) ?_
  refine A_callU (t := 141) (way := 0) rfl d_134_192 rfl (cl kI_6_73 rfl) rfl rfl rfl (fun h192 => ?_)
  refine A_aload_n d_134_195 rfl ?_
  refine A_bipush d_134_196 (by decide) ?_
  refine A_iconst d_134_198 (by decide) ?_
  refine A_iconst d_134_199 (by decide) ?_
  refine A_iconst d_134_200 (by decide) ?_
  refine A_callU (t := 141) (way := 0) rfl d_134_201 rfl (cl kI_6_73 rfl) rfl rfl rfl (fun h201 => ?_)
  refine A_aload_n d_134_204 rfl ?_
  refine A_sipush d_134_205 (by decide) ?_
  refine A_iconst d_134_208 (by decide) ?_
  refine A_iconst d_134_209 (by decide) ?_
  refine A_callU (t := 140) (way := 0) rfl d_134_210 rfl (cl kI_6_69 rfl) rfl rfl rfl (fun h210 => ?_)
  refine A_aload_n d_134_213 rfl ?_
  refine A_getfA rfl d_134_214 kF_6_31 (fun v214 => ?_)
  refine A_iconst d_134_217 (by decide) ?_
  refine A_iconst d_134_218 (by decide) ?_
  refine A_iast rfl d_134_219 (fun h219 => ?_)
  refine A_aload_n d_134_220 rfl ?_
  refine A_bipush d_134_221 (by decide) ?_
  refine A_iconst d_134_223 (by decide) ?_
  refine A_iconst d_134_224 (by decide) ?_
  refine A_iconst d_134_225 (by decide) ?_
  refine A_callU (t := 141) (way := 0) rfl d_134_226 rfl (cl kI_6_73 rfl) rfl rfl rfl (fun h226 => ?_)
  refine A_aload_n d_134_229 rfl ?_
  refine A_iconst d_134_230 (by decide) ?_
  refine A_iconst d_134_231 (by decide) ?_
  refine A_iconst d_134_232 (by decide) ?_
  refine A_iconst d_134_233 (by decide) ?_
  refine A_callU (t := 141) (way := 0) rfl d_134_234 rfl (cl kI_6_73 rfl) rfl rfl rfl (fun h234 => ?_)
  refine A_aload_n d_134_237 rfl ?_
  refine A_iconst d_134_238 (by decide) ?_
  refine A_iconst d_134_239 (by decide) ?_
  refine A_iconst d_134_240 (by decide) ?_
  refine A_iconst d_134_241 (by decide) ?_
  refine A_callU (t := 141) (way := 0) rfl d_134_242 rfl (cl kI_6_73 rfl) rfl rfl rfl (fun h242 => ?_)
  refine A_aload_n d_134_245 rfl ?_
  refine A_bipush d_134_246 (by decide) ?_
  refine A_iconst d_134_248 (by decide) ?_
  refine A_iconst d_134_249 (by decide) ?_
  refine A_iconst d_134_250 (by decide) ?_
  refine A_callU (t := 141) (way := 0) rfl d_134_251 rfl (cl kI_6_73 rfl) rfl rfl rfl (fun h251 => ?_)
  refine A_aload_n d_134_254 rfl ?_
  refine A_sipush d_134_255 (by decide) ?_
  refine A_iconst d_134_258 (by decide) ?_
  refine A_iconst d_134_259 (by decide) ?_
  refine A_callU (t := 140) (way := 0) rfl d_134_260 rfl (cl kI_6_69 rfl) rfl rfl rfl (fun h260 => ?_)
  refine A_aload_n d_134_263 rfl ?_
  refine A_bipush d_134_264 (by decide) ?_
  refine A_iconst d_134_266 (by decide) ?_
  refine A_iconst d_134_267 (by decide) ?_
  refine A_iconst d_134_268 (by decide) ?_
  refine A_callU (t := 141) (way := 0) rfl d_134_269 rfl (cl kI_6_73 rfl) rfl rfl rfl (fun h269 => ?_)
  refine A_aload_n d_134_272 rfl ?_
  refine A_callU (t := 142) (way := 0) rfl d_134_273 rfl (cl kI_6_77 rfl) rfl rfl rfl (fun h273 => ?_)
  exact A_ret rfl d_134_276

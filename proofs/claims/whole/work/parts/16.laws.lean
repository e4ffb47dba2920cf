/-! the mini machine's limit, instruction by instruction, as equations -/
section Laws
variable {m pc len : Nat} {ls ls' : mL} {st : List mV} {h : mH} {ins : Instr} {β : Type} {R : Option β}
theorem Lim_ex (d : decode (codeOf m) pc = .ok (ins, len)) (hl : lenI ins = len ∨ lenI ins = 0) : Lim m pc ls st h = ex Lim ins m pc ls st h := by
  rw [Lim_eq]
  unfold exec1
  rw [d]
  exact if_pos hl
theorem Lim_p (d : decode (codeOf m) pc = .ok (ins, len)) (hl : lenI ins = len ∨ lenI ins = 0) (hr : retOf m ins st = none) (hc : callOf m ins st = none) : Lim m pc ls st h = match pstep m ins pc ls st h with
    | some q => Lim m q.1 q.2.1 q.2.2.1 q.2.2.2
    | none => none := by
  rw [Lim_ex d hl]
  unfold ex
  rw [hr]
  simp only []
  rw [hc]
  rfl
/-- a step that always goes on -/
theorem A_p {K : mR → Option β} (d : decode (codeOf m) pc = .ok (ins, len)) (hl : lenI ins = len ∨ lenI ins = 0) (hr : retOf m ins st = none) (hc : callOf m ins st = none) {pc' : Nat} {st' : List mV} {h' : mH} (hp : pstep m ins pc ls st h = some (pc', ls', st', h')) (e : K (Lim m pc' ls' st' h') = R) : K (Lim m pc ls st h) = R := by
  rw [Lim_p d hl hr hc, hp]
  exact e
variable {K : mR → Option β}
theorem A_iload {i : Nat} {x : Int} (d : decode (codeOf m) pc = .ok (.iload i, 2)) (hx : ldI ls i = some x) (e : K (Lim m (pc + 2) ls (.inl x :: st) h) = R) : K (Lim m pc ls st h) = R :=
  A_p d (Or.inl rfl) rfl rfl (by simp only [pstep, hx]; rfl) e
theorem A_iload_n {i : Fin 4} {x : Int} (d : decode (codeOf m) pc = .ok (.iload_n i, 1)) (hx : ldI ls i.val = some x) (e : K (Lim m (pc + 1) ls (.inl x :: st) h) = R) : K (Lim m pc ls st h) = R :=
  A_p d (Or.inl rfl) rfl rfl (by simp only [pstep, hx]; rfl) e
theorem A_lload {i : Nat} {x : Int} (d : decode (codeOf m) pc = .ok (.lload i, 2)) (hx : ldJ ls i = some x) (e : K (Lim m (pc + 2) ls (.inr (.inl x) :: st) h) = R) : K (Lim m pc ls st h) = R :=
  A_p d (Or.inl rfl) rfl rfl (by simp only [pstep, hx]; rfl) e
theorem A_lload_n {i : Fin 4} {x : Int} (d : decode (codeOf m) pc = .ok (.lload_n i, 1)) (hx : ldJ ls i.val = some x) (e : K (Lim m (pc + 1) ls (.inr (.inl x) :: st) h) = R) : K (Lim m pc ls st h) = R :=
  A_p d (Or.inl rfl) rfl rfl (by simp only [pstep, hx]; rfl) e
theorem A_aload {i : Nat} {x : Nat} (d : decode (codeOf m) pc = .ok (.aload i, 2)) (hx : ldA ls i = some x) (e : K (Lim m (pc + 2) ls (.inr (.inr x) :: st) h) = R) : K (Lim m pc ls st h) = R :=
  A_p d (Or.inl rfl) rfl rfl (by simp only [pstep, hx]; rfl) e
theorem A_aload_n {i : Fin 4} {x : Nat} (d : decode (codeOf m) pc = .ok (.aload_n i, 1)) (hx : ldA ls i.val = some x) (e : K (Lim m (pc + 1) ls (.inr (.inr x) :: st) h) = R) : K (Lim m pc ls st h) = R :=
  A_p d (Or.inl rfl) rfl rfl (by simp only [pstep, hx]; rfl) e
theorem A_istore {i : Nat} {x : Int} (d : decode (codeOf m) pc = .ok (.istore i, 2)) (hs : set1 ls i (.inl x) = some ls') (e : K (Lim m (pc + 2) ls' st h) = R) : K (Lim m pc ls (.inl x :: st) h) = R :=
  A_p d (Or.inl rfl) rfl rfl (by simp only [pstep, hs]; rfl) e
theorem A_istore_n {i : Fin 4} {x : Int} (d : decode (codeOf m) pc = .ok (.istore_n i, 1)) (hs : set1 ls i.val (.inl x) = some ls') (e : K (Lim m (pc + 1) ls' st h) = R) : K (Lim m pc ls (.inl x :: st) h) = R :=
  A_p d (Or.inl rfl) rfl rfl (by simp only [pstep, hs]; rfl) e
theorem A_astore {i : Nat} {x : Nat} (d : decode (codeOf m) pc = .ok (.astore i, 2)) (hs : set1 ls i (.inr (.inr x)) = some ls') (e : K (Lim m (pc + 2) ls' st h) = R) : K (Lim m pc ls (.inr (.inr x) :: st) h) = R :=
  A_p d (Or.inl rfl) rfl rfl (by simp only [pstep, hs]; rfl) e
theorem A_astore_n {i : Fin 4} {x : Nat} (d : decode (codeOf m) pc = .ok (.astore_n i, 1)) (hs : set1 ls i.val (.inr (.inr x)) = some ls') (e : K (Lim m (pc + 1) ls' st h) = R) : K (Lim m pc ls (.inr (.inr x) :: st) h) = R :=
  A_p d (Or.inl rfl) rfl rfl (by simp only [pstep, hs]; rfl) e
theorem A_lstore {i : Nat} {x : Int} (d : decode (codeOf m) pc = .ok (.lstore i, 2)) (hs : set2 ls i (.inr (.inl x)) = some ls') (e : K (Lim m (pc + 2) ls' st h) = R) : K (Lim m pc ls (.inr (.inl x) :: st) h) = R :=
  A_p d (Or.inl rfl) rfl rfl (by simp only [pstep, hs]; rfl) e
theorem A_lstore_n {i : Fin 4} {x : Int} (d : decode (codeOf m) pc = .ok (.lstore_n i, 1)) (hs : set2 ls i.val (.inr (.inl x)) = some ls') (e : K (Lim m (pc + 1) ls' st h) = R) : K (Lim m pc ls (.inr (.inl x) :: st) h) = R :=
  A_p d (Or.inl rfl) rfl rfl (by simp only [pstep, hs]; rfl) e
theorem A_iinc {i : Nat} {n x : Int} (d : decode (codeOf m) pc = .ok (.iinc i n, 3)) (hn : -32768 ≤ n ∧ n ≤ 32767) (hx : ldI ls i = some x) (hs : set1 ls i (.inl (w32 (x + n))) = some ls') (e : K (Lim m (pc + 3) ls' st h) = R) : K (Lim m pc ls st h) = R :=
  A_p d (Or.inl rfl) rfl rfl (by simp only [pstep, if_pos hn, hx, Option.bind_some, hs]; rfl) e
theorem A_iconst {n : Int} (d : decode (codeOf m) pc = .ok (.iconst n, 1)) (hn : -1 ≤ n ∧ n ≤ 5) (e : K (Lim m (pc + 1) ls (.inl n :: st) h) = R) : K (Lim m pc ls st h) = R :=
  A_p d (Or.inl rfl) rfl rfl (by simp only [pstep, if_pos hn]) e
theorem A_bipush {n : Int} (d : decode (codeOf m) pc = .ok (.bipush n, 2)) (hn : -128 ≤ n ∧ n ≤ 127) (e : K (Lim m (pc + 2) ls (.inl n :: st) h) = R) : K (Lim m pc ls st h) = R :=
  A_p d (Or.inl rfl) rfl rfl (by simp only [pstep, if_pos hn]) e
theorem A_sipush {n : Int} (d : decode (codeOf m) pc = .ok (.sipush n, 3)) (hn : -32768 ≤ n ∧ n ≤ 32767) (e : K (Lim m (pc + 3) ls (.inl n :: st) h) = R) : K (Lim m pc ls st h) = R :=
  A_p d (Or.inl rfl) rfl rfl (by simp only [pstep, if_pos hn]) e
theorem A_lconst {n : Fin 2} {x : Int} (d : decode (codeOf m) pc = .ok (.lconst n, 1)) (hx : (n.val : Int) = x) (e : K (Lim m (pc + 1) ls (.inr (.inl x) :: st) h) = R) : K (Lim m pc ls st h) = R :=
  A_p d (Or.inl rfl) rfl rfl (by subst hx; rfl) e
theorem A_ldcw {k : Nat} {v : Int} (d : decode (codeOf m) pc = .ok (.ldc_w k, 3)) (hk : intOf (mown m) k = some v) (e : K (Lim m (pc + 3) ls (.inl v :: st) h) = R) : K (Lim m pc ls st h) = R :=
  A_p d (Or.inl rfl) rfl rfl (by simp only [pstep, hk]; rfl) e
theorem A_ldc2 {k : Nat} {v : Int} (d : decode (codeOf m) pc = .ok (.ldc2_w k, 3)) (hk : lngOf (mown m) k = some v) (e : K (Lim m (pc + 3) ls (.inr (.inl v) :: st) h) = R) : K (Lim m pc ls st h) = R :=
  A_p d (Or.inl rfl) rfl rfl (by simp only [pstep, hk]; rfl) e
theorem A_ldcS {k a : Nat} (d : decode (codeOf m) pc = .ok (.ldc k, 2)) (hi : intOf (mown m) k = none) (hk : strOf (mown m) k = some a) (e : K (Lim m (pc + 2) ls (.inr (.inr a) :: st) h) = R) : K (Lim m pc ls st h) = R :=
  A_p d (Or.inl rfl) rfl rfl (by simp only [pstep, hi, hk]; rfl) e
theorem A_iadd {x y : Int} (d : decode (codeOf m) pc = .ok (.iadd, 1)) (e : K (Lim m (pc + 1) ls (.inl (w32 (x + y)) :: st) h) = R) : K (Lim m pc ls (.inl y :: .inl x :: st) h) = R := A_p d (Or.inl rfl) rfl rfl rfl e
theorem A_isub {x y : Int} (d : decode (codeOf m) pc = .ok (.isub, 1)) (e : K (Lim m (pc + 1) ls (.inl (w32 (x - y)) :: st) h) = R) : K (Lim m pc ls (.inl y :: .inl x :: st) h) = R := A_p d (Or.inl rfl) rfl rfl rfl e
theorem A_imul {x y : Int} (d : decode (codeOf m) pc = .ok (.imul, 1)) (e : K (Lim m (pc + 1) ls (.inl (w32 (x * y)) :: st) h) = R) : K (Lim m pc ls (.inl y :: .inl x :: st) h) = R := A_p d (Or.inl rfl) rfl rfl rfl e
theorem A_iand {x y : Int} (d : decode (codeOf m) pc = .ok (.iand, 1)) (e : K (Lim m (pc + 1) ls (.inl (iand x y) :: st) h) = R) : K (Lim m pc ls (.inl y :: .inl x :: st) h) = R := A_p d (Or.inl rfl) rfl rfl rfl e
theorem A_ior {x y : Int} (d : decode (codeOf m) pc = .ok (.ior, 1)) (e : K (Lim m (pc + 1) ls (.inl (ior x y) :: st) h) = R) : K (Lim m pc ls (.inl y :: .inl x :: st) h) = R := A_p d (Or.inl rfl) rfl rfl rfl e
theorem A_ixor {x y : Int} (d : decode (codeOf m) pc = .ok (.ixor, 1)) (e : K (Lim m (pc + 1) ls (.inl (ixor x y) :: st) h) = R) : K (Lim m pc ls (.inl y :: .inl x :: st) h) = R := A_p d (Or.inl rfl) rfl rfl rfl e
theorem A_ishl {x y : Int} (d : decode (codeOf m) pc = .ok (.ishl, 1)) (e : K (Lim m (pc + 1) ls (.inl (ishl x y) :: st) h) = R) : K (Lim m pc ls (.inl y :: .inl x :: st) h) = R := A_p d (Or.inl rfl) rfl rfl rfl e
theorem A_ishr {x y : Int} (d : decode (codeOf m) pc = .ok (.ishr, 1)) (e : K (Lim m (pc + 1) ls (.inl (ishr x y) :: st) h) = R) : K (Lim m pc ls (.inl y :: .inl x :: st) h) = R := A_p d (Or.inl rfl) rfl rfl rfl e
theorem A_iushr {x y : Int} (d : decode (codeOf m) pc = .ok (.iushr, 1)) (e : K (Lim m (pc + 1) ls (.inl (iush x y) :: st) h) = R) : K (Lim m pc ls (.inl y :: .inl x :: st) h) = R := A_p d (Or.inl rfl) rfl rfl rfl e
theorem A_ladd {x y : Int} (d : decode (codeOf m) pc = .ok (.ladd, 1)) (e : K (Lim m (pc + 1) ls (.inr (.inl (w64 (x + y))) :: st) h) = R) : K (Lim m pc ls (.inr (.inl y) :: .inr (.inl x) :: st) h) = R := A_p d (Or.inl rfl) rfl rfl rfl e
theorem A_lmul {x y : Int} (d : decode (codeOf m) pc = .ok (.lmul, 1)) (e : K (Lim m (pc + 1) ls (.inr (.inl (w64 (x * y))) :: st) h) = R) : K (Lim m pc ls (.inr (.inl y) :: .inr (.inl x) :: st) h) = R := A_p d (Or.inl rfl) rfl rfl rfl e
theorem A_lcmp {x y : Int} (d : decode (codeOf m) pc = .ok (.lcmp, 1)) (e : K (Lim m (pc + 1) ls (.inl (icmp x y) :: st) h) = R) : K (Lim m pc ls (.inr (.inl y) :: .inr (.inl x) :: st) h) = R := A_p d (Or.inl rfl) rfl rfl rfl e
theorem A_i2l {x : Int} (d : decode (codeOf m) pc = .ok (.i2l, 1)) (e : K (Lim m (pc + 1) ls (.inr (.inl x) :: st) h) = R) : K (Lim m pc ls (.inl x :: st) h) = R := A_p d (Or.inl rfl) rfl rfl rfl e
theorem A_l2i {x : Int} (d : decode (codeOf m) pc = .ok (.l2i, 1)) (e : K (Lim m (pc + 1) ls (.inl (w32 x) :: st) h) = R) : K (Lim m pc ls (.inr (.inl x) :: st) h) = R := A_p d (Or.inl rfl) rfl rfl rfl e
theorem A_i2b {x : Int} (d : decode (codeOf m) pc = .ok (.i2b, 1)) (e : K (Lim m (pc + 1) ls (.inl (w8 x) :: st) h) = R) : K (Lim m pc ls (.inl x :: st) h) = R := A_p d (Or.inl rfl) rfl rfl rfl e
theorem A_dup {v : mV} (d : decode (codeOf m) pc = .ok (.dup, 1)) (hv : catV v = 1) (e : K (Lim m (pc + 1) ls (v :: v :: st) h) = R) : K (Lim m pc ls (v :: st) h) = R := A_p d (Or.inl rfl) rfl rfl (by simp only [pstep, if_pos hv]) e
theorem A_dup2 {v w : mV} (d : decode (codeOf m) pc = .ok (.dup2, 1)) (hv : catV v = 1 ∧ catV w = 1) (e : K (Lim m (pc + 1) ls (v :: w :: v :: w :: st) h) = R) : K (Lim m pc ls (v :: w :: st) h) = R := A_p d (Or.inl rfl) rfl rfl (by simp only [pstep, if_pos hv]) e
theorem A_pop {v : mV} (d : decode (codeOf m) pc = .ok (.pop, 1)) (hv : catV v = 1) (e : K (Lim m (pc + 1) ls st h) = R) : K (Lim m pc ls (v :: st) h) = R := A_p d (Or.inl rfl) rfl rfl (by simp only [pstep, if_pos hv]) e
theorem A_gets {k a : Nat} (d : decode (codeOf m) pc = .ok (.getstatic k, 3)) (hk : staOf (mown m) k = some a) (e : K (Lim m (pc + 3) ls (.inr (.inr a) :: st) h) = R) : K (Lim m pc ls st h) = R :=
  A_p d (Or.inl rfl) rfl rfl (by simp only [pstep, hk]; rfl) e
theorem tgt_eq {off : Int} {t : Nat} (ht : (pc : Int) + off = (t : Int)) : tgt pc off = some t := by
  unfold tgt
  rw [ht, if_pos (by omega)]
  rfl
theorem A_goto {off : Int} {t : Nat} (d : decode (codeOf m) pc = .ok (.goto off, 3)) (ht : (pc : Int) + off = (t : Int)) (e : K (Lim m t ls st h) = R) : K (Lim m pc ls st h) = R :=
  A_p d (Or.inl rfl) rfl rfl (by simp only [pstep, tgt_eq ht]; rfl) e
theorem A_br {b : Bool} {c : Prop} [Decidable c] {t : Nat} {off : Int} {st' : List mV} {R1 R2 : Option β} (d : decode (codeOf m) pc = .ok (ins, len)) (hl : lenI ins = len ∨ lenI ins = 0) (hr : retOf m ins st = none) (hc : callOf m ins st = none) (ht : (pc : Int) + off = (t : Int)) (hb : b = true ↔ c)
    (hp : pstep m ins pc ls st h = brn b pc off ls st' h) (e1 : K (Lim m t ls st' h) = R1) (e2 : K (Lim m (pc + 3) ls st' h) = R2) : K (Lim m pc ls st h) = if c then R1 else R2 := by
  rw [Lim_p d hl hr hc, hp, brn, tgt_eq ht]
  by_cases hcc : c
  · rw [if_pos hcc]
    simp only [Option.map_some, if_pos (hb.mpr hcc)]
    exact e1
  · rw [if_neg hcc]
    simp only [Option.map_some, if_neg (fun q => hcc (hb.mp q))]
    exact e2
theorem A_eq0 {x off : Int} {t : Nat} {R1 R2 : Option β} (d : decode (codeOf m) pc = .ok (.ifCond .eq off, 3)) (ht : (pc : Int) + off = (t : Int)) (e1 : K (Lim m t ls st h) = R1) (e2 : K (Lim m (pc + 3) ls st h) = R2) : K (Lim m pc ls (.inl x :: st) h) = if x = 0 then R1 else R2 := A_br d (Or.inl rfl) rfl rfl ht decide_eq_true_iff rfl e1 e2
theorem A_ne0 {x off : Int} {t : Nat} {R1 R2 : Option β} (d : decode (codeOf m) pc = .ok (.ifCond .ne off, 3)) (ht : (pc : Int) + off = (t : Int)) (e1 : K (Lim m t ls st h) = R1) (e2 : K (Lim m (pc + 3) ls st h) = R2) : K (Lim m pc ls (.inl x :: st) h) = if x ≠ 0 then R1 else R2 := A_br d (Or.inl rfl) rfl rfl ht decide_eq_true_iff rfl e1 e2
theorem A_lt0 {x off : Int} {t : Nat} {R1 R2 : Option β} (d : decode (codeOf m) pc = .ok (.ifCond .lt off, 3)) (ht : (pc : Int) + off = (t : Int)) (e1 : K (Lim m t ls st h) = R1) (e2 : K (Lim m (pc + 3) ls st h) = R2) : K (Lim m pc ls (.inl x :: st) h) = if x < 0 then R1 else R2 := A_br d (Or.inl rfl) rfl rfl ht decide_eq_true_iff rfl e1 e2
theorem A_ge0 {x off : Int} {t : Nat} {R1 R2 : Option β} (d : decode (codeOf m) pc = .ok (.ifCond .ge off, 3)) (ht : (pc : Int) + off = (t : Int)) (e1 : K (Lim m t ls st h) = R1) (e2 : K (Lim m (pc + 3) ls st h) = R2) : K (Lim m pc ls (.inl x :: st) h) = if 0 ≤ x then R1 else R2 := A_br d (Or.inl rfl) rfl rfl ht decide_eq_true_iff rfl e1 e2
theorem A_gt0 {x off : Int} {t : Nat} {R1 R2 : Option β} (d : decode (codeOf m) pc = .ok (.ifCond .gt off, 3)) (ht : (pc : Int) + off = (t : Int)) (e1 : K (Lim m t ls st h) = R1) (e2 : K (Lim m (pc + 3) ls st h) = R2) : K (Lim m pc ls (.inl x :: st) h) = if 0 < x then R1 else R2 := A_br d (Or.inl rfl) rfl rfl ht decide_eq_true_iff rfl e1 e2
theorem A_le0 {x off : Int} {t : Nat} {R1 R2 : Option β} (d : decode (codeOf m) pc = .ok (.ifCond .le off, 3)) (ht : (pc : Int) + off = (t : Int)) (e1 : K (Lim m t ls st h) = R1) (e2 : K (Lim m (pc + 3) ls st h) = R2) : K (Lim m pc ls (.inl x :: st) h) = if x ≤ 0 then R1 else R2 := A_br d (Or.inl rfl) rfl rfl ht decide_eq_true_iff rfl e1 e2
theorem A_eq {x y off : Int} {t : Nat} {R1 R2 : Option β} (d : decode (codeOf m) pc = .ok (.if_icmp .eq off, 3)) (ht : (pc : Int) + off = (t : Int)) (e1 : K (Lim m t ls st h) = R1) (e2 : K (Lim m (pc + 3) ls st h) = R2) : K (Lim m pc ls (.inl y :: .inl x :: st) h) = if x = y then R1 else R2 := A_br d (Or.inl rfl) rfl rfl ht decide_eq_true_iff rfl e1 e2
theorem A_ne {x y off : Int} {t : Nat} {R1 R2 : Option β} (d : decode (codeOf m) pc = .ok (.if_icmp .ne off, 3)) (ht : (pc : Int) + off = (t : Int)) (e1 : K (Lim m t ls st h) = R1) (e2 : K (Lim m (pc + 3) ls st h) = R2) : K (Lim m pc ls (.inl y :: .inl x :: st) h) = if x ≠ y then R1 else R2 := A_br d (Or.inl rfl) rfl rfl ht decide_eq_true_iff rfl e1 e2
theorem A_lt {x y off : Int} {t : Nat} {R1 R2 : Option β} (d : decode (codeOf m) pc = .ok (.if_icmp .lt off, 3)) (ht : (pc : Int) + off = (t : Int)) (e1 : K (Lim m t ls st h) = R1) (e2 : K (Lim m (pc + 3) ls st h) = R2) : K (Lim m pc ls (.inl y :: .inl x :: st) h) = if x < y then R1 else R2 := A_br d (Or.inl rfl) rfl rfl ht decide_eq_true_iff rfl e1 e2
theorem A_ge {x y off : Int} {t : Nat} {R1 R2 : Option β} (d : decode (codeOf m) pc = .ok (.if_icmp .ge off, 3)) (ht : (pc : Int) + off = (t : Int)) (e1 : K (Lim m t ls st h) = R1) (e2 : K (Lim m (pc + 3) ls st h) = R2) : K (Lim m pc ls (.inl y :: .inl x :: st) h) = if y ≤ x then R1 else R2 := A_br d (Or.inl rfl) rfl rfl ht decide_eq_true_iff rfl e1 e2
theorem A_gt {x y off : Int} {t : Nat} {R1 R2 : Option β} (d : decode (codeOf m) pc = .ok (.if_icmp .gt off, 3)) (ht : (pc : Int) + off = (t : Int)) (e1 : K (Lim m t ls st h) = R1) (e2 : K (Lim m (pc + 3) ls st h) = R2) : K (Lim m pc ls (.inl y :: .inl x :: st) h) = if y < x then R1 else R2 := A_br d (Or.inl rfl) rfl rfl ht decide_eq_true_iff rfl e1 e2
theorem A_le {x y off : Int} {t : Nat} {R1 R2 : Option β} (d : decode (codeOf m) pc = .ok (.if_icmp .le off, 3)) (ht : (pc : Int) + off = (t : Int)) (e1 : K (Lim m t ls st h) = R1) (e2 : K (Lim m (pc + 3) ls st h) = R2) : K (Lim m pc ls (.inl y :: .inl x :: st) h) = if x ≤ y then R1 else R2 := A_br d (Or.inl rfl) rfl rfl ht decide_eq_true_iff rfl e1 e2
theorem A_null {a t : Nat} {off : Int} {R1 R2 : Option β} (d : decode (codeOf m) pc = .ok (.ifnull off, 3)) (ht : (pc : Int) + off = (t : Int)) (e1 : K (Lim m t ls st h) = R1) (e2 : K (Lim m (pc + 3) ls st h) = R2) : K (Lim m pc ls (.inr (.inr a) :: st) h) = if a = 0 then R1 else R2 := A_br d (Or.inl rfl) rfl rfl ht decide_eq_true_iff rfl e1 e2
theorem A_nonnull {a t : Nat} {off : Int} {R1 R2 : Option β} (d : decode (codeOf m) pc = .ok (.ifnonnull off, 3)) (ht : (pc : Int) + off = (t : Int)) (e1 : K (Lim m t ls st h) = R1) (e2 : K (Lim m (pc + 3) ls st h) = R2) : K (Lim m pc ls (.inr (.inr a) :: st) h) = if a ≠ 0 then R1 else R2 := A_br d (Or.inl rfl) rfl rfl ht decide_eq_true_iff rfl e1 e2
/-- a step that may fail -/
theorem A_o {γ : Type} {o : Option γ} {g : γ → Nat × mL × List mV × mH} {R : γ → Option β} (hK : K none = none) (d : decode (codeOf m) pc = .ok (ins, len)) (hl : lenI ins = len ∨ lenI ins = 0) (hr : retOf m ins st = none) (hc : callOf m ins st = none)
    (hp : pstep m ins pc ls st h = o.map g) (e : ∀ x, K (Lim m (g x).1 (g x).2.1 (g x).2.2.1 (g x).2.2.2) = R x) : K (Lim m pc ls st h) = o.bind R := by
  rw [Lim_p d hl hr hc, hp]
  cases o with
  | none => exact hK
  | some x => exact e x
theorem A_idiv {x y : Int} (d : decode (codeOf m) pc = .ok (.idiv, 1)) (hy : ¬ y = 0) (e : K (Lim m (pc + 1) ls (.inl (w32 (x.tdiv y)) :: st) h) = R) : K (Lim m pc ls (.inl y :: .inl x :: st) h) = R := A_p d (Or.inl rfl) rfl rfl (by simp only [pstep, if_neg hy]) e
theorem A_irem {x y : Int} (d : decode (codeOf m) pc = .ok (.irem, 1)) (hy : ¬ y = 0) (e : K (Lim m (pc + 1) ls (.inl (x.tmod y) :: st) h) = R) : K (Lim m pc ls (.inl y :: .inl x :: st) h) = R := A_p d (Or.inl rfl) rfl rfl (by simp only [pstep, if_neg hy]) e
theorem A_lrem {x y : Int} (d : decode (codeOf m) pc = .ok (.lrem, 1)) (hy : ¬ y = 0) (e : K (Lim m (pc + 1) ls (.inr (.inl (x.tmod y)) :: st) h) = R) : K (Lim m pc ls (.inr (.inl y) :: .inr (.inl x) :: st) h) = R := A_p d (Or.inl rfl) rfl rfl (by simp only [pstep, if_neg hy]) e
/-- division by what may be 0 -/
def nz (y : Int) : Option Unit := if y = 0 then none else some ()
theorem A_iremO {x y : Int} {R : Unit → Option β} (hK : K none = none) (d : decode (codeOf m) pc = .ok (.irem, 1)) (e : K (Lim m (pc + 1) ls (.inl (x.tmod y) :: st) h) = R ()) : K (Lim m pc ls (.inl y :: .inl x :: st) h) = (nz y).bind R := by
  refine A_o (g := fun _ => (pc + 1, ls, .inl (x.tmod y) :: st, h)) hK d (Or.inl rfl) rfl rfl ?_ (fun _ => e)
  unfold nz
  simp only [pstep]
  split <;> rfl
theorem A_getfI {k ci j ty a : Nat} {R : Int → Option β} (hK : K none = none) (d : decode (codeOf m) pc = .ok (.getfield k, 3)) (hk : fldOf (mown m) k = some (ci, j, ty)) (hty : ¬ ty = 2) (e : ∀ x, K (Lim m (pc + 3) ls (.inl x :: st) h) = R x) : K (Lim m pc ls (.inr (.inr a) :: st) h) = (gfd ci j h a).bind R :=
  A_o (g := fun x => (pc + 3, ls, .inl x :: st, h)) hK d (Or.inl rfl) rfl rfl (by simp only [pstep, hk, Option.bind_some, if_neg hty]) e
theorem A_getfA {k ci j a : Nat} {R : Int → Option β} (hK : K none = none) (d : decode (codeOf m) pc = .ok (.getfield k, 3)) (hk : fldOf (mown m) k = some (ci, j, 2)) (e : ∀ x, K (Lim m (pc + 3) ls (.inr (.inr x.toNat) :: st) h) = R x) : K (Lim m pc ls (.inr (.inr a) :: st) h) = (gfd ci j h a).bind R :=
  A_o (g := fun x => (pc + 3, ls, .inr (.inr x.toNat) :: st, h)) hK d (Or.inl rfl) rfl rfl (by simp only [pstep, hk, Option.bind_some]; rfl) e
theorem A_putfI {k ci j a : Nat} {v : Int} {R : mH → Option β} (hK : K none = none) (d : decode (codeOf m) pc = .ok (.putfield k, 3)) (hk : fldOf (mown m) k = some (ci, j, 0)) (hf : finB m ci j = true) (e : ∀ h', K (Lim m (pc + 3) ls st h') = R h') : K (Lim m pc ls (.inl v :: .inr (.inr a) :: st) h) = (pfd ci j h a v).bind R :=
  A_o (g := fun h' => (pc + 3, ls, st, h')) hK d (Or.inl rfl) rfl rfl (by simp only [pstep, hk, Option.bind_some]; rw [if_pos ⟨Or.inl trivial, hf⟩]) e
/-- what is stored into a boolean is 0 or 1 -/
def bz (v : Int) : Option Unit := if v = 0 ∨ v = 1 then some () else none
theorem A_putfZ {k ci j a : Nat} {v : Int} {R : mH → Option β} (hK : K none = none) (d : decode (codeOf m) pc = .ok (.putfield k, 3)) (hk : fldOf (mown m) k = some (ci, j, 1)) (hf : finB m ci j = true) (e : ∀ h', K (Lim m (pc + 3) ls st h') = R h') : K (Lim m pc ls (.inl v :: .inr (.inr a) :: st) h) = ((bz v).bind (fun _ => pfd ci j h a v)).bind R := by
  refine A_o (g := fun h' => (pc + 3, ls, st, h')) hK d (Or.inl rfl) rfl rfl ?_ e
  simp only [pstep, hk, Option.bind_some, bz]
  by_cases hv : v = 0 ∨ v = 1
  · rw [if_pos ⟨Or.inr ⟨trivial, hv⟩, hf⟩, if_pos hv, Option.bind_some]
  · rw [if_neg (fun q => by rcases q.1 with z | z; cases z; exact hv z.2), if_neg hv]
    rfl
theorem A_putfA {k ci j a b : Nat} {R : mH → Option β} (hK : K none = none) (d : decode (codeOf m) pc = .ok (.putfield k, 3)) (hk : fldOf (mown m) k = some (ci, j, 2)) (hf : finB m ci j = true) (e : ∀ h', K (Lim m (pc + 3) ls st h') = R h') : K (Lim m pc ls (.inr (.inr b) :: .inr (.inr a) :: st) h) = (pfd ci j h a (b : Int)).bind R :=
  A_o (g := fun h' => (pc + 3, ls, st, h')) hK d (Or.inl rfl) rfl rfl (by simp only [pstep, hk, Option.bind_some]; rw [if_pos ⟨trivial, hf⟩]) e
theorem A_iald {a : Nat} {j : Int} {R : Int → Option β} (hK : K none = none) (d : decode (codeOf m) pc = .ok (.iaload, 1)) (e : ∀ x, K (Lim m (pc + 1) ls (.inl x :: st) h) = R x) : K (Lim m pc ls (.inl j :: .inr (.inr a) :: st) h) = (ald 10 h a j).bind R :=
  A_o (g := fun x => (pc + 1, ls, .inl x :: st, h)) hK d (Or.inl rfl) rfl rfl rfl e
theorem A_bald {a : Nat} {j : Int} {R : Int → Option β} (hK : K none = none) (d : decode (codeOf m) pc = .ok (.baload, 1)) (e : ∀ x, K (Lim m (pc + 1) ls (.inl x :: st) h) = R x) : K (Lim m pc ls (.inl j :: .inr (.inr a) :: st) h) = (bld h a j).bind R :=
  A_o (g := fun x => (pc + 1, ls, .inl x :: st, h)) hK d (Or.inl rfl) rfl rfl rfl e
theorem A_aald {a : Nat} {j : Int} {R : Int → Option β} (hK : K none = none) (d : decode (codeOf m) pc = .ok (.aaload, 1)) (e : ∀ x, K (Lim m (pc + 1) ls (.inr (.inr x.toNat) :: st) h) = R x) : K (Lim m pc ls (.inl j :: .inr (.inr a) :: st) h) = (ald 13 h a j).bind R :=
  A_o (g := fun x => (pc + 1, ls, .inr (.inr x.toNat) :: st, h)) hK d (Or.inl rfl) rfl rfl rfl e
theorem A_iast {a : Nat} {j v : Int} {R : mH → Option β} (hK : K none = none) (d : decode (codeOf m) pc = .ok (.iastore, 1)) (e : ∀ h', K (Lim m (pc + 1) ls st h') = R h') : K (Lim m pc ls (.inl v :: .inl j :: .inr (.inr a) :: st) h) = (ast h a j v).bind R :=
  A_o (g := fun h' => (pc + 1, ls, st, h')) hK d (Or.inl rfl) rfl rfl rfl e
theorem A_bast {a : Nat} {j v : Int} {R : mH → Option β} (hK : K none = none) (d : decode (codeOf m) pc = .ok (.bastore, 1)) (e : ∀ h', K (Lim m (pc + 1) ls st h') = R h') : K (Lim m pc ls (.inl v :: .inl j :: .inr (.inr a) :: st) h) = (bst h a j v).bind R :=
  A_o (g := fun h' => (pc + 1, ls, st, h')) hK d (Or.inl rfl) rfl rfl rfl e
theorem A_alen {a : Nat} {R : Int → Option β} (hK : K none = none) (d : decode (codeOf m) pc = .ok (.arraylength, 1)) (e : ∀ x, K (Lim m (pc + 1) ls (.inl x :: st) h) = R x) : K (Lim m pc ls (.inr (.inr a) :: st) h) = (aln h a).bind R :=
  A_o (g := fun x => (pc + 1, ls, .inl x :: st, h)) hK d (Or.inl rfl) rfl rfl rfl e
theorem A_newI {n : Int} (d : decode (codeOf m) pc = .ok (.newarray .int, 2)) (hn : 0 ≤ n ∧ n ≤ 100000) (e : K (Lim m (pc + 2) ls (.inr (.inr h.1.length) :: st) (mnew h 10 n.toNat)) = R) : K (Lim m pc ls (.inl n :: st) h) = R := A_p d (Or.inl rfl) rfl rfl (by simp only [pstep, if_pos hn]) e
theorem A_newB {n : Int} (d : decode (codeOf m) pc = .ok (.newarray .byte, 2)) (hn : 0 ≤ n ∧ n ≤ 100000) (e : K (Lim m (pc + 2) ls (.inr (.inr h.1.length) :: st) (mnew h 11 n.toNat)) = R) : K (Lim m pc ls (.inl n :: st) h) = R := A_p d (Or.inl rfl) rfl rfl (by simp only [pstep, if_pos hn]) e
theorem A_newZ {n : Int} (d : decode (codeOf m) pc = .ok (.newarray .boolean, 2)) (hn : 0 ≤ n ∧ n ≤ 100000) (e : K (Lim m (pc + 2) ls (.inr (.inr h.1.length) :: st) (mnew h 12 n.toNat)) = R) : K (Lim m pc ls (.inl n :: st) h) = R := A_p d (Or.inl rfl) rfl rfl (by simp only [pstep, if_pos hn]) e
theorem A_new {k ci : Nat} (d : decode (codeOf m) pc = .ok (.new k, 3)) (hk : newOf (mown m) k = some ci) (e : K (Lim m (pc + 3) ls (.inr (.inr h.1.length) :: st) (mnew h ci (nfld ci))) = R) : K (Lim m pc ls st h) = R := A_p d (Or.inl rfl) rfl rfl (by simp only [pstep, hk]; rfl) e
theorem A_call {way t : Nat} {as rest : List mV} {R : Int × mH → Option β} (hK : K none = none) (d : decode (codeOf m) pc = .ok (ins, 3)) (hl : lenI ins = 3) (hc : callOf m ins st = some (t, as, rest)) (hr : retOf m ins st = none) (hm : ¬ mans t = 0) (hw : wayI ins = way) (e : ∀ q : Int × mH, K (Lim m (pc + 3) ls (.inl q.1 :: rest) q.2) = R q) :
    K (Lim m pc ls st h) = (asI (cal Lim way t as h)).bind R := by
  rw [Lim_ex d (Or.inl hl)]
  unfold ex
  rw [hr]
  simp only []
  rw [hc]
  simp only [if_neg hm]
  rw [hw]
  cases asI (cal Lim way t as h) with
  | none => exact hK
  | some q => exact e q
theorem A_callU {way t : Nat} {as rest : List mV} {R : mH → Option β} (hK : K none = none) (d : decode (codeOf m) pc = .ok (ins, 3)) (hl : lenI ins = 3) (hc : callOf m ins st = some (t, as, rest)) (hr : retOf m ins st = none) (hm : mans t = 0) (hw : wayI ins = way) (e : ∀ h', K (Lim m (pc + 3) ls rest h') = R h') :
    K (Lim m pc ls st h) = (asU (cal Lim way t as h)).bind R := by
  rw [Lim_ex d (Or.inl hl)]
  unfold ex
  rw [hr]
  simp only []
  rw [hc]
  simp only [if_pos hm]
  rw [hw]
  cases asU (cal Lim way t as h) with
  | none => exact hK
  | some q => exact e q
theorem A_oinit {k t a : Nat} (d : decode (codeOf m) pc = .ok (.invokespecial k, 3)) (hk : invOf (mown m) k = some (4, t)) (hc : a ≠ 0 ∧ catS st ≤ 8 ∧ 1 ≤ mdep m) (e : K (Lim m (pc + 3) ls st h) = R) : K (Lim m pc ls (.inr (.inr a) :: st) h) = R :=
  A_p d (Or.inl rfl) rfl (by simp only [callOf, hk]) (by simp only [pstep, hk, if_pos hc]) e
theorem A_acp {k t a b : Nat} {n : Int} {R : mH → Option β} (hK : K none = none) (d : decode (codeOf m) pc = .ok (.invokestatic k, 3)) (hk : invOf (mown m) k = some (5, t)) (hc : catS st ≤ 8 ∧ 1 ≤ mdep m) (e : ∀ h', K (Lim m (pc + 3) ls st h') = R h') :
    K (Lim m pc ls (.inl n :: .inl 0 :: .inr (.inr a) :: .inl 0 :: .inr (.inr b) :: st) h) = (acp h b a n).bind R :=
  A_o (g := fun h' => (pc + 3, ls, st, h')) hK d (Or.inl rfl) rfl (by simp only [callOf, hk]) (by simp only [pstep, hk]; rw [if_pos ⟨trivial, trivial, hc⟩]) e
theorem A_ireti {x : Int} (hm : mans m = 1) (d : decode (codeOf m) pc = .ok (.ireturn, 1)) : asI (Lim m pc ls [.inl x] h) = some (x, h) := by
  rw [Lim_ex d (Or.inl rfl)]
  unfold ex
  simp only [retOf, if_pos (Or.inl hm : mans m = 1 ∨ (mans m = 2 ∧ (x = 0 ∨ x = 1)))]
  rfl
theorem A_iretz {x : Int} (hm : mans m = 2) (d : decode (codeOf m) pc = .ok (.ireturn, 1)) (hx : x = 0 ∨ x = 1) : asI (Lim m pc ls [.inl x] h) = some (x, h) := by
  rw [Lim_ex d (Or.inl rfl)]
  unfold ex
  simp only [retOf, if_pos (Or.inr ⟨hm, hx⟩ : mans m = 1 ∨ (mans m = 2 ∧ (x = 0 ∨ x = 1)))]
  rfl
/-- a boolean answer -/
def rz (x : Int) (h : mH) : Option (Int × mH) := if x = 0 ∨ x = 1 then some (x, h) else none
theorem A_iretb {x : Int} (hm : mans m = 2) (d : decode (codeOf m) pc = .ok (.ireturn, 1)) : asI (Lim m pc ls [.inl x] h) = rz x h := by
  unfold rz
  split
  · rename_i hx
    exact A_iretz hm d hx
  · rename_i hx
    rw [Lim_ex d (Or.inl rfl)]
    unfold ex
    have e1 : retOf m .ireturn [.inl x] = none := by
      simp only [retOf]
      rw [if_neg (fun q => by rcases q with q | q; omega; exact hx q.2)]
    rw [e1]
    rfl
theorem A_ret (hm : mans m = 0) (d : decode (codeOf m) pc = .ok (.return_, 1)) : asU (Lim m pc ls [] h) = some h := by
  rw [Lim_ex d (Or.inl rfl)]
  unfold ex
  simp only [retOf, if_pos hm]
  rfl
theorem A_tab {dd lo hi : Int} {offs : Array Int} {x : Int} {t : Nat} (d : decode (codeOf m) pc = .ok (.tableswitch dd lo hi offs, len)) (ht : (if x < lo ∨ hi < x then tgt pc dd else (offs[(x - lo).toNat]?).bind (fun o => tgt pc o)) = some t) (e : K (Lim m t ls st h) = R) : K (Lim m pc ls (.inl x :: st) h) = R := by
  refine A_p d (Or.inr rfl) rfl rfl ?_ e
  simp only [pstep]
  split at ht
  · rename_i hc
    rw [if_pos hc, ht]
    rfl
  · rename_i hc
    rw [if_neg hc]
    obtain ⟨o, ho, ht⟩ := Option.bind_eq_some_iff.mp ht
    rw [ho, Option.bind_some, ht]
    rfl
theorem A_look {dd : Int} {ps : Array (Int × Int)} {x : Int} {t : Nat} (d : decode (codeOf m) pc = .ok (.lookupswitch dd ps, len)) (hp : (ps.toList.zip (ps.toList.drop 1)).all (fun (a, next) => a.1 < next.1) = true) (ht : tgt pc (Op.lookupswitch.offset ps.toList dd x) = some t) (e : K (Lim m t ls st h) = R) : K (Lim m pc ls (.inl x :: st) h) = R := by
  refine A_p d (Or.inr rfl) rfl rfl ?_ e
  simp only [pstep, if_pos hp, ht]
  rfl
/-- one way of a switch -/
theorem A_if {c : Prop} [Decidable c] {X R1 R2 : Option β} (h1 : c → X = R1) (h2 : ¬ c → X = R2) : X = if c then R1 else R2 := by
  split
  · rename_i q; exact h1 q
  · rename_i q; exact h2 q
end Laws
noncomputable def cI (way t : Nat) (as : List mV) (h : mH) : Option (Int × mH) := asI (cal Lim way t as h)
noncomputable def cU (way t : Nat) (as : List mV) (h : mH) : Option mH := asU (cal Lim way t as h)

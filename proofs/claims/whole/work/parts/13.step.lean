/-! every step of the mini machine is one of the machine -/
section Steps
variable {G : mG} {l : Launch} {mi pc : Nat} {ls ls' : mL} {st st' : List mV} {h h1 : mH} {pc' len : Nat}
set_option maxHeartbeats 4000000 in
theorem pstep_snd {ins : Instr} (d : decode (codeOf mi) pc = .ok (ins, len)) (hl : lenI ins = len ∨ lenI ins = 0) (e : pstep mi ins pc ls st h = some (pc', ls', st', h1)) : Nx G l mi pc ls st h pc' ls' st' h1 := by
  cases ins with
  | iload i =>
    obtain rfl : 2 = len := by simpa [lenI] using hl
    simp only [pstep, Option.map_eq_some_iff] at e
    obtain ⟨x, hx, e⟩ := e
    cases e
    exact (s_iload d hx).nx
  | iload_n i =>
    obtain rfl : 1 = len := by simpa [lenI] using hl
    simp only [pstep, Option.map_eq_some_iff] at e
    obtain ⟨x, hx, e⟩ := e
    cases e
    exact (s_iload_n d hx).nx
  | lload i =>
    obtain rfl : 2 = len := by simpa [lenI] using hl
    simp only [pstep, Option.map_eq_some_iff] at e
    obtain ⟨x, hx, e⟩ := e
    cases e
    exact (s_lload d hx).nx
  | lload_n i =>
    obtain rfl : 1 = len := by simpa [lenI] using hl
    simp only [pstep, Option.map_eq_some_iff] at e
    obtain ⟨x, hx, e⟩ := e
    cases e
    exact (s_lload_n d hx).nx
  | aload i =>
    obtain rfl : 2 = len := by simpa [lenI] using hl
    simp only [pstep, Option.map_eq_some_iff] at e
    obtain ⟨x, hx, e⟩ := e
    cases e
    exact (s_aload d hx).nx
  | aload_n i =>
    obtain rfl : 1 = len := by simpa [lenI] using hl
    simp only [pstep, Option.map_eq_some_iff] at e
    obtain ⟨x, hx, e⟩ := e
    cases e
    exact (s_aload_n d hx).nx
  | istore i =>
    obtain rfl : 2 = len := by simpa [lenI] using hl
    simp only [pstep] at e
    split at e
    · simp only [Option.map_eq_some_iff] at e
      obtain ⟨x, hx, e⟩ := e
      cases e
      exact (s_istore d hx).nx
    · cases e
  | istore_n i =>
    obtain rfl : 1 = len := by simpa [lenI] using hl
    simp only [pstep] at e
    split at e
    · simp only [Option.map_eq_some_iff] at e
      obtain ⟨x, hx, e⟩ := e
      cases e
      exact (s_istore_n d hx).nx
    · cases e
  | astore i =>
    obtain rfl : 2 = len := by simpa [lenI] using hl
    simp only [pstep] at e
    split at e
    · simp only [Option.map_eq_some_iff] at e
      obtain ⟨x, hx, e⟩ := e
      cases e
      exact (s_astore d hx).nx
    · cases e
  | astore_n i =>
    obtain rfl : 1 = len := by simpa [lenI] using hl
    simp only [pstep] at e
    split at e
    · simp only [Option.map_eq_some_iff] at e
      obtain ⟨x, hx, e⟩ := e
      cases e
      exact (s_astore_n d hx).nx
    · cases e
  | lstore i =>
    obtain rfl : 2 = len := by simpa [lenI] using hl
    simp only [pstep] at e
    split at e
    · simp only [Option.map_eq_some_iff] at e
      obtain ⟨x, hx, e⟩ := e
      cases e
      exact (s_lstore d hx).nx
    · cases e
  | lstore_n i =>
    obtain rfl : 1 = len := by simpa [lenI] using hl
    simp only [pstep] at e
    split at e
    · simp only [Option.map_eq_some_iff] at e
      obtain ⟨x, hx, e⟩ := e
      cases e
      exact (s_lstore_n d hx).nx
    · cases e
  | iinc i n =>
    obtain rfl : 3 = len := by simpa [lenI] using hl
    simp only [pstep] at e
    split at e
    · rename_i hc
      simp only [Option.bind_eq_some_iff, Option.map_eq_some_iff] at e
      obtain ⟨x, hx, y, hy, e⟩ := e
      cases e
      exact (s_iinc d hc.1 hc.2 hx hy).nx
    · cases e
  | iconst n =>
    obtain rfl : 1 = len := by simpa [lenI] using hl
    simp only [pstep] at e
    split at e
    · rename_i hc
      cases e
      exact (s_iconst d hc.1 hc.2).nx
    · cases e
  | bipush n =>
    obtain rfl : 2 = len := by simpa [lenI] using hl
    simp only [pstep] at e
    split at e
    · rename_i hc
      cases e
      exact (s_bipush d hc.1 hc.2).nx
    · cases e
  | sipush n =>
    obtain rfl : 3 = len := by simpa [lenI] using hl
    simp only [pstep] at e
    split at e
    · rename_i hc
      cases e
      exact (s_sipush d hc.1 hc.2).nx
    · cases e
  | lconst n =>
    obtain rfl : 1 = len := by simpa [lenI] using hl
    cases e
    exact (s_lconst d).nx
  | ldc k =>
    obtain rfl : 2 = len := by simpa [lenI] using hl
    simp only [pstep] at e
    split at e
    · rename_i v hv
      cases e
      exact (s_ldcI d hv).nx
    · simp only [Option.map_eq_some_iff] at e
      obtain ⟨x, hx, e⟩ := e
      cases e
      exact (s_ldcS d hx).nx
  | ldc_w k =>
    obtain rfl : 3 = len := by simpa [lenI] using hl
    simp only [pstep, Option.map_eq_some_iff] at e
    obtain ⟨x, hx, e⟩ := e
    cases e
    exact (s_ldcw d hx).nx
  | ldc2_w k =>
    obtain rfl : 3 = len := by simpa [lenI] using hl
    simp only [pstep, Option.map_eq_some_iff] at e
    obtain ⟨x, hx, e⟩ := e
    cases e
    exact (s_ldc2 d hx).nx
  | iadd =>
    obtain rfl : 1 = len := by simpa [lenI] using hl
    simp only [pstep, bin] at e
    split at e
    · cases e
      exact (s_bin (f := fun x y => w32 (x + y)) (g := fun a b => a + b) i32_add (fun _ _ _ _ _ _ _ _ _ _ _ _ _ _ _ _ _ _ h1 h2 k => lv_iadd h1 h2 d k)).nx
    · cases e
  | isub =>
    obtain rfl : 1 = len := by simpa [lenI] using hl
    simp only [pstep, bin] at e
    split at e
    · cases e
      exact (s_bin (f := fun x y => w32 (x - y)) (g := fun a b => a - b) i32_sub (fun _ _ _ _ _ _ _ _ _ _ _ _ _ _ _ _ _ _ h1 h2 k => lv_isub h1 h2 d k)).nx
    · cases e
  | imul =>
    obtain rfl : 1 = len := by simpa [lenI] using hl
    simp only [pstep, bin] at e
    split at e
    · cases e
      exact (s_bin (f := fun x y => w32 (x * y)) (g := fun a b => a * b) i32_mul (fun _ _ _ _ _ _ _ _ _ _ _ _ _ _ _ _ _ _ h1 h2 k => lv_imul h1 h2 d k)).nx
    · cases e
  | iand =>
    obtain rfl : 1 = len := by simpa [lenI] using hl
    simp only [pstep, bin] at e
    split at e
    · cases e
      exact (s_bin (f := iand) (g := fun a b => a &&& b) i32_iand (fun _ _ _ _ _ _ _ _ _ _ _ _ _ _ _ _ _ _ h1 h2 k => lv_iand h1 h2 d k)).nx
    · cases e
  | ior =>
    obtain rfl : 1 = len := by simpa [lenI] using hl
    simp only [pstep, bin] at e
    split at e
    · cases e
      exact (s_bin (f := ior) (g := fun a b => a ||| b) i32_ior (fun _ _ _ _ _ _ _ _ _ _ _ _ _ _ _ _ _ _ h1 h2 k => lv_ior h1 h2 d k)).nx
    · cases e
  | ixor =>
    obtain rfl : 1 = len := by simpa [lenI] using hl
    simp only [pstep, bin] at e
    split at e
    · cases e
      exact (s_bin (f := ixor) (g := fun a b => a ^^^ b) i32_ixor (fun _ _ _ _ _ _ _ _ _ _ _ _ _ _ _ _ _ _ h1 h2 k => lv_ixor h1 h2 d k)).nx
    · cases e
  | ishl =>
    obtain rfl : 1 = len := by simpa [lenI] using hl
    simp only [pstep, bin] at e
    split at e
    · cases e
      exact (s_bin (f := ishl) (g := fun a b => a <<< (b &&& 31)) i32_shl (fun _ _ _ _ _ _ _ _ _ _ _ _ _ _ _ _ _ _ h1 h2 k => lv_ishl h1 h2 d k)).nx
    · cases e
  | ishr =>
    obtain rfl : 1 = len := by simpa [lenI] using hl
    simp only [pstep, bin] at e
    split at e
    · cases e
      exact (s_bin (f := ishr) (g := fun a b => a >>> (b &&& 31)) i32_shr (fun _ _ _ _ _ _ _ _ _ _ _ _ _ _ _ _ _ _ h1 h2 k => lv_ishr h1 h2 d k)).nx
    · cases e
  | iushr =>
    obtain rfl : 1 = len := by simpa [lenI] using hl
    simp only [pstep, bin] at e
    split at e
    · cases e
      exact (s_bin (f := iush) (g := fun a b => (a.toUInt32 >>> (b.toUInt32 &&& Int32.toUInt32 31)).toInt32) i32_ush (fun _ _ _ _ _ _ _ _ _ _ _ _ _ _ _ _ _ _ h1 h2 k => lv_iushr h1 h2 d rfl k)).nx
    · cases e
  | idiv =>
    obtain rfl : 1 = len := by simpa [lenI] using hl
    simp only [pstep] at e
    split at e
    · split at e
      · cases e
      · rename_i hy
        cases e
        exact (s_idiv d hy).nx
    · cases e
  | irem =>
    obtain rfl : 1 = len := by simpa [lenI] using hl
    simp only [pstep] at e
    split at e
    · split at e
      · cases e
      · rename_i hy
        cases e
        exact (s_irem d hy).nx
    · cases e
  | ladd =>
    obtain rfl : 1 = len := by simpa [lenI] using hl
    simp only [pstep, binJ] at e
    split at e
    · cases e
      exact (s_binJ (f := fun x y => w64 (x + y)) (g := fun a b => a + b) i64_add (fun _ _ _ _ _ _ _ _ _ _ _ _ _ _ _ _ _ _ h1 h2 k => lv_ladd h1 h2 d k)).nx
    · cases e
  | lmul =>
    obtain rfl : 1 = len := by simpa [lenI] using hl
    simp only [pstep, binJ] at e
    split at e
    · cases e
      exact (s_binJ (f := fun x y => w64 (x * y)) (g := fun a b => a * b) i64_mul (fun _ _ _ _ _ _ _ _ _ _ _ _ _ _ _ _ _ _ h1 h2 k => lv_lmul h1 h2 d k)).nx
    · cases e
  | lrem =>
    obtain rfl : 1 = len := by simpa [lenI] using hl
    simp only [pstep] at e
    split at e
    · split at e
      · cases e
      · rename_i hy
        cases e
        exact (s_lrem d hy).nx
    · cases e
  | lcmp =>
    obtain rfl : 1 = len := by simpa [lenI] using hl
    simp only [pstep] at e
    split at e
    · cases e
      exact (s_lcmp d).nx
    · cases e
  | i2l =>
    obtain rfl : 1 = len := by simpa [lenI] using hl
    simp only [pstep] at e
    split at e
    · cases e
      exact (s_i2l d).nx
    · cases e
  | l2i =>
    obtain rfl : 1 = len := by simpa [lenI] using hl
    simp only [pstep] at e
    split at e
    · cases e
      exact (s_l2i d).nx
    · cases e
  | i2b =>
    obtain rfl : 1 = len := by simpa [lenI] using hl
    simp only [pstep] at e
    split at e
    · cases e
      exact (s_i2b d).nx
    · cases e
  | dup =>
    obtain rfl : 1 = len := by simpa [lenI] using hl
    simp only [pstep] at e
    split at e
    · split at e
      · rename_i hc
        cases e
        exact (s_dup d hc).nx
      · cases e
    · cases e
  | dup2 =>
    obtain rfl : 1 = len := by simpa [lenI] using hl
    simp only [pstep] at e
    split at e
    · split at e
      · rename_i hc
        cases e
        exact (s_dup2 d hc.1 hc.2).nx
      · cases e
    · cases e
  | pop =>
    obtain rfl : 1 = len := by simpa [lenI] using hl
    simp only [pstep] at e
    split at e
    · split at e
      · rename_i hc
        cases e
        exact (s_pop d hc).nx
      · cases e
    · cases e
  | ifCond cd off =>
    obtain rfl : 3 = len := by simpa [lenI] using hl
    simp only [pstep, brn] at e
    split at e
    · simp only [Option.map_eq_some_iff] at e
      obtain ⟨t, ht, e⟩ := e
      cases e
      exact (s_if d ht).nx
    · cases e
  | if_icmp cd off =>
    obtain rfl : 3 = len := by simpa [lenI] using hl
    simp only [pstep, brn] at e
    split at e
    · simp only [Option.map_eq_some_iff] at e
      obtain ⟨t, ht, e⟩ := e
      cases e
      exact (s_icmp d ht).nx
    · cases e
  | ifnull off =>
    obtain rfl : 3 = len := by simpa [lenI] using hl
    simp only [pstep, brn] at e
    split at e
    · simp only [Option.map_eq_some_iff] at e
      obtain ⟨t, ht, e⟩ := e
      cases e
      exact (s_ifnull d ht).nx
    · cases e
  | ifnonnull off =>
    obtain rfl : 3 = len := by simpa [lenI] using hl
    simp only [pstep, brn] at e
    split at e
    · simp only [Option.map_eq_some_iff] at e
      obtain ⟨t, ht, e⟩ := e
      cases e
      exact (s_ifnonnull d ht).nx
    · cases e
  | goto off =>
    obtain rfl : 3 = len := by simpa [lenI] using hl
    simp only [pstep, Option.map_eq_some_iff] at e
    obtain ⟨t, ht, e⟩ := e
    cases e
    exact (s_goto d ht).nx
  | tableswitch dd lo hi offs =>
    simp only [pstep] at e
    split at e
    · rename_i x r
      split at e
      · rename_i hc
        simp only [Option.map_eq_some_iff] at e
        obtain ⟨t, ht, e⟩ := e
        cases e
        exact (s_tab d (by rw [if_pos hc]; exact ht)).nx
      · rename_i hc
        simp only [Option.bind_eq_some_iff, Option.map_eq_some_iff] at e
        obtain ⟨o, ho, t, ht, e⟩ := e
        cases e
        exact (s_tab d (by rw [if_neg hc]; exact Option.bind_eq_some_iff.mpr ⟨o, ho, ht⟩)).nx
    · cases e
  | lookupswitch dd ps =>
    simp only [pstep] at e
    split at e
    · split at e
      · rename_i hc
        simp only [Option.map_eq_some_iff] at e
        obtain ⟨t, ht, e⟩ := e
        cases e
        exact (s_look d hc ht).nx
      · cases e
    · cases e
  | getfield k =>
    obtain rfl : 3 = len := by simpa [lenI] using hl
    simp only [pstep, Option.bind_eq_some_iff] at e
    obtain ⟨f, hf, e⟩ := e
    split at e
    · simp only [Option.map_eq_some_iff] at e
      obtain ⟨x, hx, e⟩ := e
      cases e
      exact (s_getf (ci := f.1) (j := f.2.1) (ty := f.2.2) d hf hx).nx
    · cases e
  | putfield k =>
    obtain rfl : 3 = len := by simpa [lenI] using hl
    simp only [pstep, Option.bind_eq_some_iff] at e
    obtain ⟨f, hf, e⟩ := e
    split at e
    · rename_i v a r
      split at e
      · rename_i hc
        simp only [Option.map_eq_some_iff] at e
        obtain ⟨x, hx, e⟩ := e
        cases e
        refine (s_putf (ci := f.1) (j := f.2.1) (ty := f.2.2) (x := v) d hf hx (fun w hw => ?_) (fun h1 => ?_) hc.2).nx
        · unfold RS
          rw [if_neg (by rcases hc.1 with q | q <;> omega)]
          exact hw
        · rcases hc.1 with q | q
          · omega
          · exact q.2
      · cases e
    · rename_i b a r
      split at e
      · rename_i hc
        simp only [Option.map_eq_some_iff] at e
        obtain ⟨x, hx, e⟩ := e
        cases e
        refine (s_putf (ci := f.1) (j := f.2.1) (ty := f.2.2) (x := (b : Int)) d hf hx (fun w hw => ?_) (fun h1 => by omega) hc.2).nx
        unfold RS
        rw [if_pos hc.1]
        exact ⟨by omega, by rw [Int.toNat_natCast]; exact hw⟩
      · cases e
    · cases e
  | getstatic k =>
    obtain rfl : 3 = len := by simpa [lenI] using hl
    simp only [pstep, Option.map_eq_some_iff] at e
    obtain ⟨x, hx, e⟩ := e
    cases e
    exact (s_gets d hx).nx
  | iaload =>
    obtain rfl : 1 = len := by simpa [lenI] using hl
    simp only [pstep] at e
    split at e
    · simp only [Option.map_eq_some_iff] at e
      obtain ⟨x, hx, e⟩ := e
      cases e
      exact (s_iald d hx).nx
    · cases e
  | baload =>
    obtain rfl : 1 = len := by simpa [lenI] using hl
    simp only [pstep] at e
    split at e
    · simp only [Option.map_eq_some_iff] at e
      obtain ⟨x, hx, e⟩ := e
      cases e
      exact (s_bald d hx).nx
    · cases e
  | aaload =>
    obtain rfl : 1 = len := by simpa [lenI] using hl
    simp only [pstep] at e
    split at e
    · simp only [Option.map_eq_some_iff] at e
      obtain ⟨x, hx, e⟩ := e
      cases e
      exact (s_aald d hx).nx
    · cases e
  | iastore =>
    obtain rfl : 1 = len := by simpa [lenI] using hl
    simp only [pstep] at e
    split at e
    · simp only [Option.map_eq_some_iff] at e
      obtain ⟨x, hx, e⟩ := e
      cases e
      exact (s_iast d hx).nx
    · cases e
  | bastore =>
    obtain rfl : 1 = len := by simpa [lenI] using hl
    simp only [pstep] at e
    split at e
    · simp only [Option.map_eq_some_iff] at e
      obtain ⟨x, hx, e⟩ := e
      cases e
      exact (s_bast d hx).nx
    · cases e
  | arraylength =>
    obtain rfl : 1 = len := by simpa [lenI] using hl
    simp only [pstep] at e
    split at e
    · simp only [Option.map_eq_some_iff] at e
      obtain ⟨x, hx, e⟩ := e
      cases e
      exact (s_alen d hx).nx
    · cases e
  | newarray t =>
    obtain rfl : 2 = len := by simpa [lenI] using hl
    simp only [pstep] at e
    split at e
    · split at e
      · rename_i hc
        split at e
        · cases e
          exact (s_newa d hc.1 hc.2 (Or.inl ⟨rfl, rfl⟩)).nx
        · cases e
          exact (s_newa d hc.1 hc.2 (Or.inr (Or.inl ⟨rfl, rfl⟩))).nx
        · cases e
          exact (s_newa d hc.1 hc.2 (Or.inr (Or.inr ⟨rfl, rfl⟩))).nx
        · cases e
      · cases e
    · cases e
  | new k =>
    obtain rfl : 3 = len := by simpa [lenI] using hl
    simp only [pstep, Option.map_eq_some_iff] at e
    obtain ⟨x, hx, e⟩ := e
    cases e
    exact (s_new d hx).nx
  | multianewarray k dm =>
    obtain rfl : 4 = len := by simpa [lenI] using hl
    simp only [pstep] at e
    split at e
    · split at e
      · rename_i hc
        obtain ⟨c1, rfl, rfl, c4, c5, c6, c7⟩ := hc
        cases e
        exact (s_grid d c1 c4 c5 c6 c7).nx
      · cases e
    · cases e
  | invokespecial k =>
    obtain rfl : 3 = len := by simpa [lenI] using hl
    simp only [pstep] at e
    split at e
    · rename_i t a r hk
      split at e
      · rename_i hc
        cases e
        exact (s_oinit d hk hc.1 hc.2.1 hc.2.2).nx
      · cases e
    · cases e
  | invokestatic k =>
    obtain rfl : 3 = len := by simpa [lenI] using hl
    simp only [pstep] at e
    split at e
    · rename_i t n dp a sp b r hk
      split at e
      · rename_i hc
        obtain ⟨rfl, rfl, c3, c4⟩ := hc
        simp only [Option.map_eq_some_iff] at e
        obtain ⟨x, hx, e⟩ := e
        cases e
        exact (s_acp d hk c3 c4 hx).nx
      · cases e
    · cases e
  | invokevirtual k =>
    obtain rfl : 3 = len := by simpa [lenI] using hl
    simp only [pstep] at e
    split at e
    · rename_i t a r hk
      split at e
      · rename_i hc
        obtain ⟨rfl, c3, c4⟩ := hc
        simp only [Option.map_eq_some_iff] at e
        obtain ⟨x, hx, e⟩ := e
        cases e
        exact s_slen d hk c3 c4 hx
      · cases e
    · rename_i t i a r hk
      split at e
      · rename_i hc
        obtain ⟨rfl, c3, c4⟩ := hc
        simp only [Option.map_eq_some_iff] at e
        obtain ⟨x, hx, e⟩ := e
        cases e
        exact s_sat d hk c3 c4 hx
      · cases e
    · cases e
  | _ => cases e
end Steps

/-! the String constant: its length, its letters (the JDK's own methods, walked) -/
def PcJ (G : mG) (A : List Value) : Array Value → State → Prop := fun a U => a = A.toArray ∧ XF G U
def QcJ (w : Option Value) : Array Value → State → Outcome → State → Prop := fun _ st o t => o = .returned w ∧ t.heap = st.heap
def noA : Nat → Prop := fun _ => False
def wsJ (y : MethodName) (cc : ByteArray) (n : Nat) (ret : Option FieldType) : List Cond := Cond.code y cc n ret :: gtbl
def rmJ (d : Nat) : Room := { frames := d, cells := 0, slots := 0, locals := 40 * d }
def JX (G : mG) (d : Nat) (cc : ByteArray) (n : Nat) (own : String) (p : Program) (R : Room) (s : State) (m : MethodId) (args : Array Value) (meth : Method) (c : Code) : Prop :=
  p.tables.exec = Jvm.exec ∧ c.code = cc ∧ c.maxLocals = n ∧ s.vm.findClass own = some m.cls ∧ (∀ w ∈ gtbl, w.before args s = true) ∧ meth.locks = false ∧ d ≤ R.frames ∧ 40 * d ≤ R.locals ∧ XF G s
def MetJ (G : mG) (l : Launch) (y : MethodName) (cc : ByteArray) (n : Nat) (ret : Option FieldType) (d : Nat) (A : List Value) (w : Option Value) : Prop :=
  Met l y (wsJ y cc n ret) (rmJ d) (PcJ G A) (QcJ w) 0 0 noA
theorem metJ {G : mG} {l : Launch} {y : MethodName} {cc : ByteArray} {n : Nat} {ret : Option FieldType} {d : Nat} {A : List Value} {w : Option Value} (hp : plainName y.cls = true) (hn : (lg_sl A).length ≤ n)
    (walk : ∀ (p : Program) (e : Env) (R : Room) (s : State) (m : MethodId) (below : List Frame) (meth : Method) (c : Code), JX G d cc n y.cls p R s m A.toArray meth c → meth.sig.returnType = ret → ∀ L : Array Slot, lv_has L n (lv_args 0 A) → W p l e R s m A.toArray below meth c s.heap [] 0 0 (MQ below (QcJ w) A.toArray s 0 0 noA) (F0 m 0 L [])) : MetJ G l y cc n ret d A w := by
  refine Met.ofW (cc := cc) (maxL := n) (ret := ret) hp rfl ?_
  intro p e s m args below meth c s₁ B hml hv
  obtain ⟨rfl, hX⟩ := hv
  have hts := atoms_spec (ws := wsJ y cc n ret) B.pre
  have hown : s.vm.findClass y.cls = some m.cls := findClass_of_methodNamed B.named
  rw [lg_entry_eq]
  exact walk p e _ s m below meth c ⟨B.exec, B.bytes, hml, hown, fun w hw => hts w (List.mem_cons_of_mem _ hw), B.notSynchronized, Nat.le_refl _, Nat.le_refl _, hX⟩ B.returns _ (lv_entry A hn)
theorem PcJ_blind {G : mG} {A : List Value} : FrameBlind (PcJ G A) := by
  intro a U g mk q
  exact ⟨q.1, XF_warm (U := U.calling g mk a) q.2 (State.WarmedH.refl U) (fun _ _ _ => rfl)⟩
/-- what a call of such a method needs of the tables and the room -/
def yOk (y : MethodName) (cc : ByteArray) (n : Nat) (ret : Option FieldType) (k : Nat) : Prop := Cond.code y cc n ret ∈ gtbl ∧ Cond.initialized y.cls ∈ gtbl ∧ y.cls ≠ "java/lang/invoke/MethodHandle" ∧ y.cls ≠ "java/lang/invoke/VarHandle" ∧ (parseMethodDescriptor y.desc).map (fun d => d.parameters.length) = some k ∧ n ≤ 13
theorem callBJ {R : Room} {s : State} {args : Array Value} {own : String} {y : MethodName} {cc : ByteArray} {n k i d : Nat} {ret : Option FieldType} (hts : ∀ w ∈ gtbl, w.before args s = true) (hy : yOk y cc n ret k) (hf : d + 1 ≤ R.frames) (hlo : 40 * (d + 1) ≤ R.locals) (hl : Cond.methodLink own i y ∈ gtbl) :
    CallB R s args own i y cc n ret (wsJ y cc n ret) (rmJ d) 0 0 k := by
  obtain ⟨y1, y2, y3, y4, y5, y6⟩ := hy
  refine ⟨rfl, rfl, hf, by show _ + 40 * d ≤ _; omega, ?_, List.mem_cons_self, hts _ y1, hts _ y2, ⟨y3, y4⟩, ?_, hts _ hl⟩
  · intro w hw a' U hW
    have hg : w ∈ gtbl := by
      rcases List.mem_cons.mp hw with rfl | hw
      · exact y1
      · exact hw
    exact word_at hW (good_of_word (List.mem_filter.mp hg).2) (hts w hg)
  · intro sig hs
    rw [hs] at y5
    exact (Option.some.inj y5).symm
theorem jcall {l : Launch} {p : Program} {e : Env} {R : Room} {s : State} {m : MethodId} {args : Array Value} {below : List Frame} {meth : Method} {c : Code} {H : Heap} {locs : List Loc} {cells slots pc : Nat} {Q : State → Prop} {L : Array Slot} {S rest : List Value} {w : Option Value} {a : Array Value}
    (run : va_Run p l e R s m args below meth c H locs cells slots 0 0 (F0 m pc L S) rest (QcJ w a) noA)
    (kk : W p l e R s m args below meth c H locs cells slots Q (F0 m (pc + 3) L (w.toList ++ rest))) :
    W p l e R s m args below meth c H locs cells slots Q (F0 m pc L S) := by
  intro T hT X
  obtain ⟨v0, st₀, t, T', L0, e1, X', e2, e3, e4, ⟨hov, hh⟩, go⟩ := run T hT X
  have hL0 : L0 = [] := by
    cases L0 with
    | nil => rfl
    | cons a r => exact (e2 a List.mem_cons_self).elim
  subst hL0
  cases hov
  rw [List.append_nil] at X'
  obtain ⟨t', q1, q2⟩ := kk T' (by rw [e3, hh, e1]) X'
  exact ⟨t', go t' q1, q2⟩
def cStr : String := "java/lang/String"
def yCoder : MethodName := ⟨"java/lang/String", "coder", "()B"⟩
def yIsL : MethodName := ⟨"java/lang/String", "isLatin1", "()Z"⟩
def yLat : MethodName := ⟨"java/lang/StringLatin1", "charAt", "([BI)C"⟩
def yChk : MethodName := ⟨"java/lang/String", "checkIndex", "(II)V"⟩
def yPre : MethodName := ⟨"jdk/internal/util/Preconditions", "checkIndex", "(IILjava/util/function/BiFunction;)I"⟩
theorem jw_in (i : Nat) {w : Cond} (h : lw_tbl[i]? = some w) (hg : goodWord w = true) : w ∈ gtbl := List.mem_filter.mpr ⟨List.mem_of_getElem? h, hg⟩
set_option maxRecDepth 100000 in
theorem ok_len : yOk yStrLen prog_10_method_54_code 1 (some .int) 0 := ⟨tb_1 (List.mem_of_getElem? (i := 169) (by rfl)) rfl, tb_1 (List.mem_of_getElem? (i := 7) (by rfl)) rfl, by decide, by decide, by decide, by decide⟩
set_option maxRecDepth 100000 in
theorem ok_coder : yOk yCoder prog_10_method_152_code 1 (some .byte) 0 := ⟨tb_1 (List.mem_of_getElem? (i := 173) (by rfl)) rfl, tb_1 (List.mem_of_getElem? (i := 7) (by rfl)) rfl, by decide, by decide, by decide, by decide⟩
set_option maxRecDepth 100000 in
theorem ok_at : yOk yStrAt prog_10_method_56_code 2 (some .char) 1 := ⟨tb_1 (List.mem_of_getElem? (i := 179) (by rfl)) rfl, tb_1 (List.mem_of_getElem? (i := 7) (by rfl)) rfl, by decide, by decide, by decide, by decide⟩
set_option maxRecDepth 100000 in
theorem ok_isL : yOk yIsL prog_10_method_154_code 1 (some .boolean) 0 := ⟨tb_1 (List.mem_of_getElem? (i := 183) (by rfl)) rfl, tb_1 (List.mem_of_getElem? (i := 7) (by rfl)) rfl, by decide, by decide, by decide, by decide⟩
set_option maxRecDepth 100000 in
theorem ok_lat : yOk yLat prog_11_method_2_code 2 (some .char) 2 := ⟨tb_1 (List.mem_of_getElem? (i := 186) (by rfl)) rfl, tb_1 (List.mem_of_getElem? (i := 8) (by rfl)) rfl, by decide, by decide, by decide, by decide⟩
set_option maxRecDepth 100000 in
theorem ok_chk : yOk yChk prog_10_method_155_code 2 none 2 := ⟨tb_1 (List.mem_of_getElem? (i := 189) (by rfl)) rfl, tb_1 (List.mem_of_getElem? (i := 7) (by rfl)) rfl, by decide, by decide, by decide, by decide⟩
set_option maxRecDepth 100000 in
theorem ok_pre : yOk yPre prog_14_method_11_code 3 (some .int) 3 := ⟨tb_1 (List.mem_of_getElem? (i := 194) (by rfl)) rfl, tb_1 (List.mem_of_getElem? (i := 9) (by rfl)) rfl, by decide, by decide, by decide, by decide⟩
set_option maxRecDepth 100000 in
theorem w_cod : [Cond.methodLink cStr 335 yCoder, .instanceMethod yCoder, .selects cStr yCoder yCoder].all (fun w => decide (w ∈ tables_1_1) && goodWord w) = true := by decide +kernel
set_option maxRecDepth 100000 in
theorem w_isL : [Cond.methodLink cStr 492 yIsL, .instanceMethod yIsL, .selects cStr yIsL yIsL].all (fun w => decide (w ∈ tables_1_1) && goodWord w) = true := by decide +kernel
set_option maxRecDepth 100000 in
theorem w_sta : [Cond.methodLink cStr 495 yLat, .static yLat, .methodLink "java/lang/StringLatin1" 9 yChk, .static yChk, .methodLink cStr 1059 yPre, .static yPre, .fieldLink cStr 38 cStr "COMPACT_STRINGS" "Z", .fieldLink cStr 1053 "jdk/internal/util/Preconditions" "SIOOBE_FORMATTER" "Ljava/util/function/BiFunction;"].all (fun w => decide (w ∈ tables_1_1) && goodWord w) = true := by decide +kernel
set_option maxRecDepth 100000 in
theorem w_fld : [Cond.fieldLink cStr 9 cStr "value" "[B", .fieldLink cStr 15 cStr "coder" "B"].all (fun w => decide (w ∈ tables_1_6) && goodWord w) = true := by decide +kernel
theorem w_of1 {ws : List Cond} (h : ws.all (fun w => decide (w ∈ tables_1_1) && goodWord w) = true) {w : Cond} (i : Nat) (hw : ws[i]? = some w) : w ∈ gtbl := by
  have := List.all_eq_true.mp h w (List.mem_of_getElem? hw)
  simp only [Bool.and_eq_true, decide_eq_true_eq] at this
  exact tb_1 this.1 this.2
theorem w_of6 {ws : List Cond} (h : ws.all (fun w => decide (w ∈ tables_1_6) && goodWord w) = true) {w : Cond} (i : Nat) (hw : ws[i]? = some w) : w ∈ gtbl := by
  have := List.all_eq_true.mp h w (List.mem_of_getElem? hw)
  simp only [Bool.and_eq_true, decide_eq_true_eq] at this
  exact tb_6 this.1 this.2
theorem XF_B {G : mG} {s : State} (h : XF G s) : va_T .byte (G.2.1 5) 129 (fun j => .int (txB j)) (AA G) s s.heap := h.2.2.2.2.2.2.2.2.2.2.2
theorem XF_for {G : mG} {s : State} (h : XF G s) : va_Zq "jdk/internal/util/Preconditions" "SIOOBE_FORMATTER" "Ljava/util/function/BiFunction;" (AA G) s s.heap := h.2.2.2.2.2.2.2.2.2.2.1
theorem XF_com {G : mG} {s : State} (h : XF G s) : va_Z "java/lang/String" "COMPACT_STRINGS" "Z" (.int 1) (AA G) s s.heap := h.2.2.2.2.2.2.2.2.2.1
theorem XF_cod {G : mG} {s : State} (h : XF G s) : va_OF "java/lang/String" "coder" "B" (.int 0) (G.2.1 4) (AA G) s s.heap := h.2.2.2.2.2.2.2.1
theorem XF_val {G : mG} {s : State} (h : XF G s) : va_OF "java/lang/String" "value" "[B" (.ref (G.2.1 5)) (G.2.1 4) (AA G) s s.heap := h.2.2.2.2.2.2.2.2.1
theorem XF_str {G : mG} {s : State} (h : XF G s) : va_O "java/lang/String" (G.2.1 4) (AA G) s s.heap := h.2.2.2.2.2.2.1
section JWalk
variable {G : mG} {l : Launch}
theorem m_coder : MetJ G l yCoder prog_10_method_152_code 1 (some .byte) 0 [.ref (G.2.1 4)] (some (.int 0)) := by
  refine metJ (by decide) (by simp [lg_sl, Value.category]) ?_
  intro p e R s m below meth c J hr L hl
  obtain ⟨hx, hb, hml, hown, hts, hlk, hf, hlo, hX⟩ := J
  refine va_gets hx hb (XF_com hX) va_S.rf hown (hts _ (w_of1 w_sta 6 rfl)) (fun _ q => q) (by decide +kernel) ?_
  refine lv_if_eq hx hb (off := 10) (tgt := 13) (by decide +kernel) (by decide) (fun q => by cases q) (fun _ => ?_)
  refine lv_aload_n hx hb (k := 0) (by decide +kernel) rfl (lv_at hl 0 rfl) ?_
  refine vk_getf hx hb (XF_cod hX) va_S.rf hown (hts _ (w_of6 w_fld 1 rfl)) (fun _ q => q) (by decide +kernel) ?_
  refine lv_goto hx hb (off := 4) (tgt := 14) (by decide +kernel) (by decide) ?_
  exact W.zret hx hb hr (by decide) (fun t e1 _ => ⟨rfl, e1⟩) (fun _ q => by cases q) (by decide +kernel)
theorem m_isL : MetJ G l yIsL prog_10_method_154_code 1 (some .boolean) 0 [.ref (G.2.1 4)] (some (.int 1)) := by
  refine metJ (by decide) (by simp [lg_sl, Value.category]) ?_
  intro p e R s m below meth c J hr L hl
  obtain ⟨hx, hb, hml, hown, hts, hlk, hf, hlo, hX⟩ := J
  refine va_gets hx hb (XF_com hX) va_S.rf hown (hts _ (w_of1 w_sta 6 rfl)) (fun _ q => q) (by decide +kernel) ?_
  refine lv_if_eq hx hb (off := 14) (tgt := 17) (by decide +kernel) (by decide) (fun q => by cases q) (fun _ => ?_)
  refine lv_aload_n hx hb (k := 0) (by decide +kernel) rfl (lv_at hl 0 rfl) ?_
  refine vk_getf hx hb (XF_cod hX) va_S.rf hown (hts _ (w_of6 w_fld 1 rfl)) (fun _ q => q) (by decide +kernel) ?_
  refine lv_if_ne hx hb (off := 7) (tgt := 17) (by decide +kernel) (by decide) (fun q => absurd rfl q) (fun _ => ?_)
  refine lv_iconst hx hb (n := 1) (v := 1) (by decide +kernel) (by decide) ?_
  refine lv_goto hx hb (off := 4) (tgt := 18) (by decide +kernel) (by decide) ?_
  exact W.zret hx hb hr (by decide) (fun t e1 _ => ⟨rfl, e1⟩) (fun _ q => by cases q) (by decide +kernel)
theorem jPre {s U : State} {A : List Value} {H : Heap} {locs : List Loc} (hX : XF G s) (hS : va_S (AA G) s.heap H locs) (e1 : U.heap = H) (hW : s.WarmedH U.vm) : PcJ G A A.toArray U := ⟨rfl, XF_warm hX hW (fun q h1 h2 => by rw [e1]; exact hS.2.1 q h1 h2)⟩
theorem m_len : MetJ G l yStrLen prog_10_method_54_code 1 (some .int) 1 [.ref (G.2.1 4)] (some (.int 129)) := by
  refine metJ (by decide) (by simp [lg_sl, Value.category]) ?_
  intro p e R s m below meth c J hr L hl
  obtain ⟨hx, hb, hml, hown, hts, hlk, hf, hlo, hX⟩ := J
  have hB2 := XF_B hX
  refine lv_aload_n hx hb (k := 0) (by decide +kernel) rfl (lv_at hl 0 rfl) ?_
  refine vk_getf hx hb (XF_val hX) va_S.rf hown (hts _ (w_of6 w_fld 0 rfl)) (fun _ q => q) (by decide +kernel) ?_
  refine va_tlen (v := 129) hx hb hB2 va_S.rf (by decide) (by decide +kernel) ?_
  refine lv_aload_n hx hb (k := 0) (by decide +kernel) rfl (lv_at hl 0 rfl) ?_
  have fix : CallFix p m c prog_10_method_54_code 1 s #[.ref (G.2.1 4)] gtbl cStr := ⟨hx, hb, hml, hown, hts⟩
  refine jcall (va_runV (C := cStr) (As := []) (rest := [.int 129]) fix m_coder ⟨callBJ hts ok_coder (by omega) (by omega) (w_of1 w_cod 0 rfl), hts _ (w_of1 w_cod 1 rfl), hts _ (w_of1 w_cod 2 rfl)⟩ ⟨PcJ_blind, va_Orecv (XF_str hX) (va_S.rf (A := AA G)), fun U e1 hW => jPre (A := [.ref (G.2.1 4)]) hX va_S.rf e1 hW⟩ rfl rfl hl.1 rfl (lv_room (by decide)) (show decode prog_10_method_54_code 6 = .ok (.invokevirtual 335, 3) by decide +kernel) ⟨by omega, by omega⟩) ?_
  refine lv_ishr hx hb (by decide +kernel) ?_
  rw [show (129 : Int32) >>> ((0 : Int32) &&& 31) = 129 from by decide]
  exact W.iret hx hb hr (fun t e1 _ => ⟨rfl, e1⟩) (fun _ q => by cases q) (by decide +kernel)
theorem m_pre {i n : Int32} {v : Value} (hv : v = .null ∨ ∃ t : Nat, v = .ref t) (h0 : ¬ i < 0) (h1 : i < n) : MetJ G l yPre prog_14_method_11_code 3 (some .int) 0 [.int i, .int n, v] (some (.int i)) := by
  refine metJ (by decide) (by rcases hv with rfl | ⟨t, rfl⟩ <;> simp [lg_sl, Value.category]) ?_
  intro p e R s m below meth c J hr L hl
  obtain ⟨hx, hb, hml, hown, hts, hlk, hf, hlo, hX⟩ := J
  refine lv_iload_n hx hb (k := 0) (by decide +kernel) rfl (lv_at hl 0 rfl) ?_
  refine lv_if_lt hx hb (off := 8) (tgt := 9) (by decide +kernel) (by decide) (fun q => absurd q h0) (fun _ => ?_)
  refine lv_iload_n hx hb (k := 0) (by decide +kernel) rfl (lv_at hl 0 rfl) ?_
  refine lv_iload_n hx hb (k := 1) (by decide +kernel) rfl (lv_at hl 1 rfl) ?_
  refine lv_icmp_lt hx hb (off := 10) (tgt := 16) (by decide +kernel) (by decide) (fun _ => ?_) (fun q => absurd h1 q)
  refine lv_iload_n hx hb (k := 0) (by decide +kernel) rfl (lv_at hl 0 rfl) ?_
  exact W.iret hx hb hr (fun t e1 _ => ⟨rfl, e1⟩) (fun _ q => by cases q) (by decide +kernel)
theorem m_chk {i n : Int32} (h0 : ¬ i < 0) (h1 : i < n) : MetJ G l yChk prog_10_method_155_code 2 none 1 [.int i, .int n] none := by
  refine metJ (by decide) (by simp [lg_sl, Value.category]) ?_
  intro p e R s m below meth c J hr L hl
  obtain ⟨hx, hb, hml, hown, hts, hlk, hf, hlo, hX⟩ := J
  refine lv_iload_n hx hb (k := 0) (by decide +kernel) rfl (lv_at hl 0 rfl) ?_
  refine lv_iload_n hx hb (k := 1) (by decide +kernel) rfl (lv_at hl 1 rfl) ?_
  have fix : CallFix p m c prog_10_method_155_code 2 s #[.int i, .int n] gtbl cStr := ⟨hx, hb, hml, hown, hts⟩
  have go : ∀ v : Value, (v = .null ∨ ∃ t : Nat, v = .ref t) → va_Z "jdk/internal/util/Preconditions" "SIOOBE_FORMATTER" "Ljava/util/function/BiFunction;" v (AA G) s s.heap → W p l e R s m #[.int i, .int n] below meth c s.heap [] 0 0 (MQ below (QcJ none) #[.int i, .int n] s 0 0 noA) (F0 m 2 L [.int n, .int i]) := by
    intro v hv hZ
    refine va_gets hx hb hZ va_S.rf hown (hts _ (w_of1 w_sta 7 rfl)) (fun _ q => q) (by decide +kernel) ?_
    refine jcall (va_runS (As := [.int i, .int n, v]) (rest := []) fix (m_pre hv h0 h1) ⟨callBJ hts ok_pre (by omega) (by omega) (w_of1 w_sta 4 rfl), hts _ (w_of1 w_sta 5 rfl)⟩ ⟨PcJ_blind, fun U e1 hW => jPre hX va_S.rf e1 hW⟩ rfl rfl hl.1 rfl (lv_room (by decide)) (show decode prog_10_method_155_code 5 = .ok (.invokestatic 1059, 3) by decide +kernel) ⟨by omega, by omega⟩) ?_
    refine lv_pop hx hb (by decide +kernel) rfl ?_
    exact W.vret hx hb hr (fun t e1 _ => ⟨rfl, e1⟩) (fun _ q => by cases q) (by decide +kernel)
  rcases XF_for hX with h | ⟨t, h⟩
  · exact go .null (Or.inl rfl) h
  · exact go (.ref t) (Or.inr ⟨t, rfl⟩) h
theorem chr_ok : (List.range 128).all (fun n => decide ((((Int32.ofNat n &&& 255).toUInt32 % 65536).toInt32) = Int32.ofNat n) && decide (narrow .char (.int (Int32.ofNat n)) = .int (Int32.ofNat n))) = true := by decide +kernel
theorem chr_of {b : Int32} (h0 : 0 ≤ b.toInt) (h1 : b.toInt ≤ 127) : ((b &&& 255).toUInt32 % 65536).toInt32 = b ∧ narrow .char (.int b) = .int b := by
  have e : b = Int32.ofNat b.toInt.toNat := by
    rw [i32_eq]
    have := i32_of (n := (b.toInt.toNat : Int)) (by omega) (by omega)
    have h2 : (Int32.ofNat b.toInt.toNat).toInt = (b.toInt.toNat : Int) := this
    rw [h2]
    omega
  have := List.all_eq_true.mp chr_ok b.toInt.toNat (List.mem_range.mpr (by omega))
  simp only [Bool.and_eq_true, decide_eq_true_eq] at this
  rw [← e] at this
  exact this
theorem in129 {i : Int32} (h0 : ¬ i < 0) (h1 : i < 129) : vp_in i 129 ∧ i.toNatClampNeg < 129 := by
  have a0 : (0 : Int) ≤ i.toInt := by
    have := Int32.not_lt.mp h0
    simpa using Int32.le_iff_toInt_le.mp this
  have a1 : i.toInt < 129 := by
    have := Int32.lt_iff_toInt_lt.mp h1
    exact this
  have a2 : i.toNatClampNeg < 129 := by
    show i.toInt.toNat < 129
    omega
  refine ⟨?_, a2⟩
  intro q
  rcases q with q | q
  · exact h0 q
  · omega
theorem m_lat {i : Int32} (h0 : ¬ i < 0) (h1 : i < 129) : MetJ G l yLat prog_11_method_2_code 2 (some .char) 2 [.ref (G.2.1 5), .int i] (some (.int (txB i.toNatClampNeg))) := by
  refine metJ (by decide) (by simp [lg_sl, Value.category]) ?_
  intro p e R s m below meth c J hr L hl
  obtain ⟨hx, hb, hml, hown, hts, hlk, hf, hlo, hX⟩ := J
  have hB2 := XF_B hX
  obtain ⟨n1, n2⟩ := in129 h0 h1
  obtain ⟨t1, t2⟩ := txB_ok n2
  obtain ⟨c1, c2⟩ := chr_of t1 t2
  refine lv_iload_n hx hb (k := 1) (by decide +kernel) rfl (lv_at hl 1 rfl) ?_
  refine lv_aload_n hx hb (k := 0) (by decide +kernel) rfl (lv_at hl 0 rfl) ?_
  refine va_tlen (v := 129) hx hb hB2 va_S.rf (by decide) (by decide +kernel) ?_
  have fix : CallFix p m c prog_11_method_2_code 2 s #[.ref (G.2.1 5), .int i] gtbl "java/lang/StringLatin1" := ⟨hx, hb, hml, hown, hts⟩
  refine jcall (va_runS (As := [.int i, .int 129]) (rest := []) fix (m_chk h0 h1) ⟨callBJ hts ok_chk (by omega) (by omega) (w_of1 w_sta 2 rfl), hts _ (w_of1 w_sta 3 rfl)⟩ ⟨PcJ_blind, fun U e1 hW => jPre hX va_S.rf e1 hW⟩ rfl rfl hl.1 rfl (lv_room (by decide)) (show decode prog_11_method_2_code 3 = .ok (.invokestatic 9, 3) by decide +kernel) ⟨by omega, by omega⟩) ?_
  refine lv_aload_n hx hb (k := 0) (by decide +kernel) rfl (lv_at hl 0 rfl) ?_
  refine lv_iload_n hx hb (k := 1) (by decide +kernel) rfl (lv_at hl 1 rfl) ?_
  refine va_tb hx hb hB2 va_S.rf n1 rfl (by decide +kernel) ?_
  refine lv_sipush hx hb (n := 255) (v := 255) (by decide +kernel) (by decide) ?_
  refine lv_iand hx hb (by decide +kernel) ?_
  refine lv_i2c hx hb (by decide +kernel) c1 ?_
  exact W.zret hx hb hr c2 (fun t e1 _ => ⟨rfl, e1⟩) (fun _ q => by cases q) (by decide +kernel)
theorem m_at {i : Int32} (h0 : ¬ i < 0) (h1 : i < 129) : MetJ G l yStrAt prog_10_method_56_code 2 (some .char) 3 [.ref (G.2.1 4), .int i] (some (.int (txB i.toNatClampNeg))) := by
  refine metJ (by decide) (by simp [lg_sl, Value.category]) ?_
  intro p e R s m below meth c J hr L hl
  obtain ⟨hx, hb, hml, hown, hts, hlk, hf, hlo, hX⟩ := J
  obtain ⟨n1, n2⟩ := in129 h0 h1
  obtain ⟨t1, t2⟩ := txB_ok n2
  obtain ⟨c1, c2⟩ := chr_of t1 t2
  refine lv_aload_n hx hb (k := 0) (by decide +kernel) rfl (lv_at hl 0 rfl) ?_
  have fix : CallFix p m c prog_10_method_56_code 2 s #[.ref (G.2.1 4), .int i] gtbl cStr := ⟨hx, hb, hml, hown, hts⟩
  refine jcall (va_runV (C := cStr) (As := []) (rest := []) fix m_isL ⟨callBJ hts ok_isL (by omega) (by omega) (w_of1 w_isL 0 rfl), hts _ (w_of1 w_isL 1 rfl), hts _ (w_of1 w_isL 2 rfl)⟩ ⟨PcJ_blind, va_Orecv (XF_str hX) (va_S.rf (A := AA G)), fun U e1 hW => jPre (A := [.ref (G.2.1 4)]) hX va_S.rf e1 hW⟩ rfl rfl hl.1 rfl (lv_room (by decide)) (show decode prog_10_method_56_code 1 = .ok (.invokevirtual 492, 3) by decide +kernel) ⟨by omega, by omega⟩) ?_
  refine lv_if_eq hx hb (off := 12) (tgt := 16) (by decide +kernel) (by decide) (fun q => by cases q) (fun _ => ?_)
  refine lv_aload_n hx hb (k := 0) (by decide +kernel) rfl (lv_at hl 0 rfl) ?_
  refine vk_getf hx hb (XF_val hX) va_S.rf hown (hts _ (w_of6 w_fld 0 rfl)) (fun _ q => q) (by decide +kernel) ?_
  refine lv_iload_n hx hb (k := 1) (by decide +kernel) rfl (lv_at hl 1 rfl) ?_
  refine jcall (va_runS (As := [.ref (G.2.1 5), .int i]) (rest := []) fix (m_lat h0 h1) ⟨callBJ hts ok_lat (by omega) (by omega) (w_of1 w_sta 0 rfl), hts _ (w_of1 w_sta 1 rfl)⟩ ⟨PcJ_blind, fun U e1 hW => jPre hX va_S.rf e1 hW⟩ rfl rfl hl.1 rfl (lv_room (by decide)) (show decode prog_10_method_56_code 12 = .ok (.invokestatic 495, 3) by decide +kernel) ⟨by omega, by omega⟩) ?_
  exact W.zret hx hb hr c2 (fun t e1 _ => ⟨rfl, e1⟩) (fun _ q => by cases q) (by decide +kernel)
end JWalk
section Steps
variable {G : mG} {l : Launch} {mi pc : Nat} {ls ls' : mL} {st : List mV} {h : mH}
/-- the cell of the text's letters: as many, and the same -/
theorem tx_cell {s : State} {H : Heap} {locs : List Loc} (hX : XF G s) (hS : va_S (AA G) s.heap H locs) {n : Nat} {cell : Cell} (c1 : H[rho G 5]? = some cell) (hn : n < 1000000) (hsz : cell.slots.size = n) : n = 129 ∧ ∀ j, j < 129 → cell.slots[j]? = some (.int (txB j)) := by
  obtain ⟨cell', g1, g2, g3, g4, g5, g6, g7⟩ := (XF_B hX).kept hS.2.1
  have e : cell' = cell := Option.some.inj (g1.symm.trans c1)
  subst e
  rw [hsz] at g5
  have h2 : (Int32.ofNat n).toInt = (n : Int) := i32_of (n := (n : Int)) (by omega) (by omega)
  have h3 : (Int32.ofNat n).toInt = 129 := by
    have : Int32.ofNat n = Int32.ofNat 129 := g5
    rw [this]
    decide
  exact ⟨by omega, g6⟩
theorem s_slen {k t : Nat} {x : Int} {r : List mV} (d : decode (codeOf mi) pc = .ok (.invokevirtual k, 3)) (hk : invOf (mown mi) k = some (6, t)) (hc : catS r ≤ 8) (hd : 2 ≤ mdep mi) (hx : aln h 5 = some x) : Nx G l mi pc ls (.inr (.inr 4) :: r) h (pc + 3) ls (.inl x :: r) h := by
  refine ⟨List.prefix_refl _, fun v h' hp hs => ?_⟩
  intro p e R s m args below meth c C H locs cells slots Q L S hR hS hL hT hcc hsl ret
  obtain ⟨w, S1, rfl, hw, hT1⟩ := RL_cons hT
  have ew := RV_ref1 hw (by decide)
  subst ew
  have hX : XF G s := C.2.2.2.2.2.2.2.2.2.2.1
  obtain ⟨kd, n, h1, h2, h3, h4, h5, rfl⟩ := aln_of hx
  obtain ⟨cell, c1, c2, c3, c4, c5, c6⟩ := arr_of hR h1 h5 h2 h3
  obtain ⟨hn, -⟩ := tx_cell hX hS c1 (by omega) c4
  subst hn
  have hts := C.2.2.2.2.1
  have hW : ∀ w ∈ invW (mown mi) k 6 t, w.before args s = true := fun w hw => hts w (inv_in hk hw)
  have hfr := C.2.2.2.2.2.2.2.1
  have hlo := C.2.2.2.2.2.2.2.2.1
  have fix : CallFix p m c (codeOf mi) (mmax mi) s args gtbl (cnm (mown mi)) := ⟨C.1, C.2.1, C.2.2.1, C.2.2.2.1, hts⟩
  refine jcall (va_runV (C := cStr) (As := []) (rest := S1) fix m_len ⟨callBJ hts ok_len (by omega) (by omega) (inv_in hk (by simp [invW])), hW (.instanceMethod yStrLen) (by simp [invW]), hW (.selects cStr yStrLen yStrLen) (by simp [invW, cStr])⟩ ⟨PcJ_blind, va_Orecv (XF_str hX) hS, fun U e1 hW => jPre (A := [.ref (G.2.1 4)]) hX hS e1 hW⟩ rfl rfl hL.1 rfl (lv_room (by rw [RL_cat hT1]; exact hc)) d ⟨by omega, by omega⟩) ?_
  exact hs p e R s m args below meth c C H locs cells slots Q L _ hR hS hL ⟨⟨129, rfl, by decide⟩, hT1⟩ hcc hsl ret
theorem s_sat {k t : Nat} {i x : Int} {r : List mV} (d : decode (codeOf mi) pc = .ok (.invokevirtual k, 3)) (hk : invOf (mown mi) k = some (7, t)) (hc : catS r ≤ 8) (hd : 5 ≤ mdep mi) (hx : ald 11 h 5 i = some x) : Nx G l mi pc ls (.inl i :: .inr (.inr 4) :: r) h (pc + 3) ls (.inl x :: r) h := by
  refine ⟨List.prefix_refl _, fun v h' hp hs => ?_⟩
  intro p e R s m args below meth c C H locs cells slots Q L S hR hS hL hT hcc hsl ret
  obtain ⟨w0, S0, rfl, ⟨a, rfl, ha⟩, hT0⟩ := RL_cons hT
  obtain ⟨w, S1, rfl, hw, hT1⟩ := RL_cons hT0
  have ew := RV_ref1 hw (by decide)
  subst ew
  have hX : XF G s := C.2.2.2.2.2.2.2.2.2.2.1
  obtain ⟨n, h1, h2, h3, h4, h5⟩ := ald_of hx
  obtain ⟨cell, c1, c2, c3, c4, c5, c6⟩ := arr_of hR h1 h4 (by omega) (by omega)
  obtain ⟨hn, htx⟩ := tx_cell hX hS c1 (by omega) c4
  subst hn
  have hlt : i.toNat < 129 := by omega
  obtain ⟨z, z1, z2⟩ := c6 i.toNat hlt
  have ez : z = .int (txB i.toNat) := Option.some.inj (z1.symm.trans (htx _ hlt))
  subst ez
  have z2 : RV G (.inl (h.2 5 i.toNat)) (.int (txB i.toNat)) := z2
  rw [h5] at z2
  have a0 : ¬ a < 0 := by
    intro q
    have := Int32.lt_iff_toInt_lt.mp q
    have e0 : (0 : Int32).toInt = 0 := rfl
    omega
  have a1 : a < 129 := by
    rw [Int32.lt_iff_toInt_lt]
    have e0 : (129 : Int32).toInt = 129 := rfl
    omega
  have a2 : a.toNatClampNeg = i.toNat := by
    show a.toInt.toNat = _
    rw [ha]
  have hts := C.2.2.2.2.1
  have hW : ∀ w ∈ invW (mown mi) k 7 t, w.before args s = true := fun w hw => hts w (inv_in hk hw)
  have hfr := C.2.2.2.2.2.2.2.1
  have hlo := C.2.2.2.2.2.2.2.2.1
  have fix : CallFix p m c (codeOf mi) (mmax mi) s args gtbl (cnm (mown mi)) := ⟨C.1, C.2.1, C.2.2.1, C.2.2.2.1, hts⟩
  have hM := m_at (G := G) (l := l) a0 a1
  rw [a2] at hM
  refine jcall (va_runV (C := cStr) (As := [.int a]) (rest := S1) fix hM ⟨callBJ hts ok_at (by omega) (by omega) (inv_in hk (by simp [invW])), hW (.instanceMethod yStrAt) (by simp [invW]), hW (.selects cStr yStrAt yStrAt) (by simp [invW, cStr])⟩ ⟨PcJ_blind, va_Orecv (XF_str hX) hS, fun U e1 hW => jPre (A := [.ref (G.2.1 4), .int a]) hX hS e1 hW⟩ rfl rfl hL.1 rfl (lv_room (by rw [RL_cat hT1]; exact hc)) d ⟨by omega, by omega⟩) ?_
  exact hs p e R s m args below meth c C H locs cells slots Q L _ hR hS hL ⟨z2, hT1⟩ hcc hsl ret
end Steps

/-! what holds in a method of the claim while it runs -/
def AA (G : mG) : Nat → Prop := fun q => G.1 ≤ q
def aov (U : State) : Prop := (Cond.arrayOver (.array .int)).before #[] U = true
theorem aov_spec {U : State} (h : aov U) : ∃ comp c k, U.vm.findClass (FieldType.array .int).toString = some comp ∧ (U.vm.classes.findIdx? fun (x : Class) => match x.kind with | .array component _ => component == comp | _ => false) = some c ∧ U.vm.classes[c]? = some k ∧ k.kind = .array comp (.array .int) ∧ U.vm.findClass ("[" ++ (FieldType.array .int).toString) = some c := by
  unfold aov Cond.before at h
  simp only [Cond.holds, Cond.value, beq_iff_eq] at h
  cases hc : U.vm.findClass (FieldType.array .int).toString with
  | none => simp [hc] at h
  | some comp =>
    simp only [hc, Option.bind_some, Option.bind_eq_some_iff, Option.map_eq_some_iff] at h
    obtain ⟨c, hi, k, hk, hb⟩ := h
    have hi' := hi
    obtain ⟨hlt, hp, -⟩ := Array.findIdx?_eq_some_iff_getElem.mp hi
    have hkk : U.vm.classes[c] = k := (Array.getElem?_eq_some_iff.mp hk).2
    rw [hkk] at hp
    cases hkind : k.kind with
    | array component ty =>
      rw [hkind] at hb hp
      simp at hb hp
      exact ⟨comp, c, k, rfl, hi', hk, by rw [hkind, hp, hb.1], hb.2⟩
    | _ => rw [hkind] at hb; simp at hb
theorem aov_moved {u U : State} (hvm : u.vm.Alike U.vm) (h : aov u) : aov U := by
  obtain ⟨comp, c, k, h1, h2, h3, h4, h5⟩ := aov_spec h
  obtain ⟨k', hk', he⟩ := hvm.2.2 _ _ h3
  have e1 := va_idx_bare u.vm comp
  have e2 := va_idx_bare U.vm comp
  have eb := hvm.bare_eq
  have e3 := e1.symm
  rw [show u.vm.bare = U.vm.bare from by first | exact eb | exact eb.symm] at e3
  have hi := (e3.trans e2).symm.trans h2
  have hkind : k'.kind = .array comp (.array .int) := by rw [he]; exact h4
  have f1 : U.vm.findClass (FieldType.array .int).toString = some comp := by rw [hvm.findClass]; exact h1
  have f2 : U.vm.findClass ("[" ++ (FieldType.array .int).toString) = some c := by rw [hvm.findClass]; exact h5
  unfold aov Cond.before Cond.holds
  simp only [Cond.value]
  rw [f1, Option.bind_some]
  refine (congrArg (fun o : Option Nat => (o.bind (fun c => (U.vm.classes[c]?).map fun (k : Class) => match k.kind with | .array _ ty => decide (ty = FieldType.array .int) && decide (U.vm.findClass ("[" ++ (FieldType.array .int).toString) = some c) | _ => false) == some true)) hi).trans ?_
  simp [hk', hkind, f2]
def txt0 : String := "s00;s10;l1111,,0;i3,1,0,0;i4,1,0,0;i4,1,1,2;i6,1,0,0;i11,1,2,0;l1018,2,1;i7,1,0,0;i5,0,1,0;i2,0,2,0;i12,3,0,0;l1000,,1;i13,0,0,0;"
def txL : List Nat := [115, 48, 48, 59, 115, 49, 48, 59, 108, 49, 49, 49, 49, 44, 44, 48, 59, 105, 51, 44, 49, 44, 48, 44, 48, 59, 105, 52, 44, 49, 44, 48, 44, 48, 59, 105, 52, 44, 49, 44, 49, 44, 50, 59, 105, 54, 44, 49, 44, 48, 44, 48, 59, 105, 49, 49, 44, 49, 44, 50, 44, 48, 59, 108, 49, 48, 49, 56, 44, 50, 44, 49, 59, 105, 55, 44, 49, 44, 48, 44, 48, 59, 105, 53, 44, 48, 44, 49, 44, 48, 59, 105, 50, 44, 48, 44, 50, 44, 48, 59, 105, 49, 50, 44, 51, 44, 48, 44, 48, 59, 108, 49, 48, 48, 48, 44, 44, 49, 59, 105, 49, 51, 44, 48, 44, 48, 44, 48, 59]
def txB (j : Nat) : Int32 := Int32.ofNat (txL.getD j 0)
theorem txB_all : ∀ j, j < 129 → (0 ≤ (txB j).toInt ∧ (txB j).toInt ≤ 127) := by decide +kernel
theorem txB_ok {j : Nat} (h : j < 129) : 0 ≤ (txB j).toInt ∧ (txB j).toInt ≤ 127 := txB_all j h
def nestH : String := "TypedBlocks"
/-- what was there before: the static arrays, the text's String, and links between nest mates -/
def XF (G : mG) (s : State) : Prop :=
  (∀ c k t, invOf c k = some (3, t) → va_Nw (.methodLinkNest (cnm c) k (mname t) nestH) s) ∧
  va_Nw (.fieldLinkNest (cnm 2) 72 "TypedBlocks" "OPERANDS" "[I" nestH) s ∧
  va_Z "TypedBlocks" "OPERANDS" "[I" (.ref (G.2.1 2)) (AA G) s s.heap ∧
  va_Z "TypedBlocks" "DRAWN" "[I" (.ref (G.2.1 3)) (AA G) s s.heap ∧
  aov s ∧
  vk_R "TypedBlocks" 52 txt0 (G.2.1 4) s ∧
  va_O "java/lang/String" (G.2.1 4) (AA G) s s.heap ∧
  va_OF "java/lang/String" "coder" "B" (.int 0) (G.2.1 4) (AA G) s s.heap ∧
  va_OF "java/lang/String" "value" "[B" (.ref (G.2.1 5)) (G.2.1 4) (AA G) s s.heap ∧
  va_Z "java/lang/String" "COMPACT_STRINGS" "Z" (.int 1) (AA G) s s.heap ∧
  va_Zq "jdk/internal/util/Preconditions" "SIOOBE_FORMATTER" "Ljava/util/function/BiFunction;" (AA G) s s.heap ∧
  va_T .byte (G.2.1 5) 129 (fun j => .int (txB j)) (AA G) s s.heap
theorem XF_warm {G : mG} {s U : State} (h : XF G s) (hW : s.WarmedH U.vm) (hq : ∀ q : Nat, q < s.heap.size → ¬ AA G q → U.heap[q]? = s.heap[q]?) : XF G U := by
  obtain ⟨h1, h2, h3, h4, h5, h6, h7, h8, h9, h10, h11, h12⟩ := h
  have ha := hW.alike
  refine ⟨fun c k t e => (h1 c k t e).warmM hW, h2.warmF hW, (h3.moved ha).kept hq, (h4.moved ha).kept hq, aov_moved ha h5, h6.warm hW, (h7.moved ha).kept hq, (h8.moved ha).kept hq, (h9.moved ha).kept hq, (h10.moved ha).kept hq, (h11.moved ha).kept hq, ?_⟩
  exact (h12.moved ha).kept hq
/-- the machine in a method: code, class, words, room -/
def CX (G : mG) (mi : Nat) (p : Program) (R : Room) (s : State) (m : MethodId) (args : Array Value) (meth : Method) (c : Code) : Prop :=
  p.tables.exec = Jvm.exec ∧ c.code = codeOf mi ∧ c.maxLocals = mmax mi ∧ s.vm.findClass (cnm (mown mi)) = some m.cls ∧ (∀ w ∈ gtbl, w.before args s = true) ∧ meth.locks = false ∧ ((mname mi).name = "<init>" → meth.name = "<init>") ∧
  mdep mi ≤ R.frames ∧ 40 * mdep mi ≤ R.locals ∧ va_K G.2.2 vwCl [] s ∧ XF G s ∧ G.1 ≤ s.heap.size
def msz (h : mH) : Nat := (h.1.map Prod.snd).sum
def RVo (G : mG) : Option mV → List Value → Prop
  | none, S => S = []
  | some v, S => ∃ w, S = [w] ∧ RV G v w
/-- from such a place the method comes to its end, with this answer and this memory -/
def Snd (G : mG) (l : Launch) (mi pc : Nat) (ls : mL) (st : List mV) (h : mH) (v : Option mV) (h' : mH) : Prop :=
  ∀ (p : Program) (e : Env) (R : Room) (s : State) (m : MethodId) (args : Array Value) (below : List Frame) (meth : Method) (c : Code), CX G mi p R s m args meth c →
  ∀ (H : Heap) (locs : List Loc) (cells slots : Nat) (Q : State → Prop) (L : Array Slot) (S : List Value), Rep G s h H → va_S (AA G) s.heap H locs → LR G (mmax mi) ls L → RL G st S →
  cells + (h'.1.length - h.1.length) ≤ R.cells → slots + (msz h' - msz h) ≤ R.slots →
  (∀ (H' : Heap) (locs' : List Loc) (pc' : Nat) (L' : Array Slot) (S' : List Value), Rep G s h' H' → va_S (AA G) s.heap H' locs' → RVo G v S' →
    ((mans mi = 0 ∧ v = none ∧ decode (codeOf mi) pc' = .ok (.return_, 1)) ∨ (∃ x, v = some (.inl x) ∧ decode (codeOf mi) pc' = .ok (.ireturn, 1) ∧ (mans mi = 1 ∨ (mans mi = 2 ∧ (x = 0 ∨ x = 1))))) →
    W p l e R s m args below meth c H' locs' (cells + (h'.1.length - h.1.length)) (slots + (msz h' - msz h)) Q (F0 m pc' L' S')) →
  W p l e R s m args below meth c H locs cells slots Q (F0 m pc L S)
/-- one step that leaves the memory as it is -/
def St1 (G : mG) (l : Launch) (mi pc : Nat) (ls : mL) (st : List mV) (h : mH) (pc' : Nat) (ls' : mL) (st' : List mV) : Prop :=
  ∀ (p : Program) (e : Env) (R : Room) (s : State) (m : MethodId) (args : Array Value) (below : List Frame) (meth : Method) (c : Code), CX G mi p R s m args meth c →
  ∀ (H : Heap) (locs : List Loc) (cells slots : Nat) (Q : State → Prop) (L : Array Slot) (S : List Value), Rep G s h H → va_S (AA G) s.heap H locs → LR G (mmax mi) ls L → RL G st S →
  (∀ (L' : Array Slot) (S' : List Value), LR G (mmax mi) ls' L' → RL G st' S' → W p l e R s m args below meth c H locs cells slots Q (F0 m pc' L' S')) →
  W p l e R s m args below meth c H locs cells slots Q (F0 m pc L S)
/-- one step of the mini machine is one of the machine -/
def Nx (G : mG) (l : Launch) (mi pc : Nat) (ls : mL) (st : List mV) (h : mH) (pc' : Nat) (ls' : mL) (st' : List mV) (h1 : mH) : Prop :=
  h.1 <+: h1.1 ∧ ∀ (v : Option mV) (h' : mH), h1.1 <+: h'.1 → Snd G l mi pc' ls' st' h1 v h' → Snd G l mi pc ls st h v h'
theorem St1.nx {G : mG} {l : Launch} {mi pc : Nat} {ls : mL} {st : List mV} {h : mH} {pc' : Nat} {ls' : mL} {st' : List mV} (H1 : St1 G l mi pc ls st h pc' ls' st') : Nx G l mi pc ls st h pc' ls' st' h := by
  refine ⟨List.prefix_refl _, fun v h' hp hs => ?_⟩
  intro p e R s m args below meth c C H locs cells slots Q L S hR hS hL hT hc hsl ret
  exact H1 p e R s m args below meth c C H locs cells slots Q L S hR hS hL hT (fun L' S' hL' hT' => hs p e R s m args below meth c C H locs cells slots Q L' S' hR hS hL' hT' hc hsl ret)
section Steps
variable {G : mG} {l : Launch} {mi pc : Nat} {ls ls' : mL} {st : List mV} {h : mH}
theorem s_iload {i : Nat} {x : Int} (d : decode (codeOf mi) pc = .ok (.iload i, 2)) (hx : ldI ls i = some x) : St1 G l mi pc ls st h (pc + 2) ls (.inl x :: st) := by
  intro p e R s m args below meth c C H locs cells slots Q L S hR hS hL hT kk
  obtain ⟨a, ha, hv⟩ := ldI_of hL hx
  exact lv_iload C.1 C.2.1 d ha (kk L _ hL ⟨⟨a, rfl, hv⟩, hT⟩)
theorem s_iload_n {i : Fin 4} {x : Int} (d : decode (codeOf mi) pc = .ok (.iload_n i, 1)) (hx : ldI ls i.val = some x) : St1 G l mi pc ls st h (pc + 1) ls (.inl x :: st) := by
  intro p e R s m args below meth c C H locs cells slots Q L S hR hS hL hT kk
  obtain ⟨a, ha, hv⟩ := ldI_of hL hx
  exact lv_iload_n C.1 C.2.1 d rfl ha (kk L _ hL ⟨⟨a, rfl, hv⟩, hT⟩)
theorem s_lload {i : Nat} {x : Int} (d : decode (codeOf mi) pc = .ok (.lload i, 2)) (hx : ldJ ls i = some x) : St1 G l mi pc ls st h (pc + 2) ls (.inr (.inl x) :: st) := by
  intro p e R s m args below meth c C H locs cells slots Q L S hR hS hL hT kk
  obtain ⟨a, ha, hv⟩ := ldJ_of hL hx
  exact lv_lload C.1 C.2.1 d ha (kk L _ hL ⟨⟨a, rfl, hv⟩, hT⟩)
theorem s_lload_n {i : Fin 4} {x : Int} (d : decode (codeOf mi) pc = .ok (.lload_n i, 1)) (hx : ldJ ls i.val = some x) : St1 G l mi pc ls st h (pc + 1) ls (.inr (.inl x) :: st) := by
  intro p e R s m args below meth c C H locs cells slots Q L S hR hS hL hT kk
  obtain ⟨a, ha, hv⟩ := ldJ_of hL hx
  exact lv_lload_n C.1 C.2.1 d rfl ha (kk L _ hL ⟨⟨a, rfl, hv⟩, hT⟩)
theorem s_aload {i : Nat} {x : Nat} (d : decode (codeOf mi) pc = .ok (.aload i, 2)) (hx : ldA ls i = some x) : St1 G l mi pc ls st h (pc + 2) ls (.inr (.inr x) :: st) := by
  intro p e R s m args below meth c C H locs cells slots Q L S hR hS hL hT kk
  have ha := ldA_of hL hx
  by_cases h0 : x = 0
  · rw [if_pos h0] at ha
    exact lv_aloadN C.1 C.2.1 d ha (kk L _ hL ⟨(if_pos h0).symm, hT⟩)
  · rw [if_neg h0] at ha
    exact lv_aload C.1 C.2.1 d ha (kk L _ hL ⟨(if_neg h0).symm, hT⟩)
theorem s_aload_n {i : Fin 4} {x : Nat} (d : decode (codeOf mi) pc = .ok (.aload_n i, 1)) (hx : ldA ls i.val = some x) : St1 G l mi pc ls st h (pc + 1) ls (.inr (.inr x) :: st) := by
  intro p e R s m args below meth c C H locs cells slots Q L S hR hS hL hT kk
  have ha := ldA_of hL hx
  by_cases h0 : x = 0
  · rw [if_pos h0] at ha
    exact lv_aload_nN C.1 C.2.1 d rfl ha (kk L _ hL ⟨(if_pos h0).symm, hT⟩)
  · rw [if_neg h0] at ha
    exact lv_aload_n C.1 C.2.1 d rfl ha (kk L _ hL ⟨(if_neg h0).symm, hT⟩)
theorem set1_lt {i : Nat} {v : mV} (hs : set1 ls i v = some ls') : i < ls.length := by
  unfold set1 at hs
  split at hs
  · assumption
  · cases hs
theorem set2_lt {i : Nat} {v : mV} (hs : set2 ls i v = some ls') : i + 1 < ls.length := by
  unfold set2 at hs
  split at hs
  · assumption
  · cases hs
theorem s_istore {i : Nat} {x : Int} {r : List mV} (d : decode (codeOf mi) pc = .ok (.istore i, 2)) (hs : set1 ls i (.inl x) = some ls') : St1 G l mi pc ls (.inl x :: r) h (pc + 2) ls' r := by
  intro p e R s m args below meth c C H locs cells slots Q L S hR hS hL hT kk
  obtain ⟨w, q, rfl, ⟨a, rfl, ha⟩, hT1⟩ := RL_cons hT
  exact lv_istore C.1 C.2.1 d (LR_has hL) (by have := set1_lt hs; have := hL.2.2.1; omega) rfl (fun L' hl => kk L' q (LR_set1 hL hs ⟨a, rfl, ha⟩ hl) hT1)
theorem s_istore_n {i : Fin 4} {x : Int} {r : List mV} (d : decode (codeOf mi) pc = .ok (.istore_n i, 1)) (hs : set1 ls i.val (.inl x) = some ls') : St1 G l mi pc ls (.inl x :: r) h (pc + 1) ls' r := by
  intro p e R s m args below meth c C H locs cells slots Q L S hR hS hL hT kk
  obtain ⟨w, q, rfl, ⟨a, rfl, ha⟩, hT1⟩ := RL_cons hT
  exact lv_istore_n C.1 C.2.1 d rfl (LR_has hL) (by have := set1_lt hs; have := hL.2.2.1; omega) rfl (fun L' hl => kk L' q (LR_set1 hL hs ⟨a, rfl, ha⟩ hl) hT1)
theorem s_lstore {i : Nat} {x : Int} {r : List mV} (d : decode (codeOf mi) pc = .ok (.lstore i, 2)) (hs : set2 ls i (.inr (.inl x)) = some ls') : St1 G l mi pc ls (.inr (.inl x) :: r) h (pc + 2) ls' r := by
  intro p e R s m args below meth c C H locs cells slots Q L S hR hS hL hT kk
  obtain ⟨w, q, rfl, ⟨a, rfl, ha⟩, hT1⟩ := RL_cons hT
  exact lv_lstore C.1 C.2.1 d (LR_has hL) (by have := set2_lt hs; have := hL.2.2.1; omega) rfl (fun L' hl => kk L' q (LR_set2 hL hs ⟨a, rfl, ha⟩ hl) hT1)
theorem s_lstore_n {i : Fin 4} {x : Int} {r : List mV} (d : decode (codeOf mi) pc = .ok (.lstore_n i, 1)) (hs : set2 ls i.val (.inr (.inl x)) = some ls') : St1 G l mi pc ls (.inr (.inl x) :: r) h (pc + 1) ls' r := by
  intro p e R s m args below meth c C H locs cells slots Q L S hR hS hL hT kk
  obtain ⟨w, q, rfl, ⟨a, rfl, ha⟩, hT1⟩ := RL_cons hT
  exact lv_lstore_n C.1 C.2.1 d rfl (LR_has hL) (by have := set2_lt hs; have := hL.2.2.1; omega) rfl (fun L' hl => kk L' q (LR_set2 hL hs ⟨a, rfl, ha⟩ hl) hT1)
theorem s_astore {i : Nat} {x : Nat} {r : List mV} (d : decode (codeOf mi) pc = .ok (.astore i, 2)) (hs : set1 ls i (.inr (.inr x)) = some ls') : St1 G l mi pc ls (.inr (.inr x) :: r) h (pc + 2) ls' r := by
  intro p e R s m args below meth c C H locs cells slots Q L S hR hS hL hT kk
  obtain ⟨w, q, rfl, hw, hT1⟩ := RL_cons hT
  by_cases h0 : x = 0
  · have e : w = .null := by rw [RV_ref hw, if_pos h0]
    subst e
    exact lv_astoreN C.1 C.2.1 d (LR_has hL) (by have := set1_lt hs; have := hL.2.2.1; omega) rfl (fun L' hl => kk L' q (LR_set1 hL hs hw hl) hT1)
  · have e := RV_ref1 hw h0
    subst e
    exact lv_astore C.1 C.2.1 d (LR_has hL) (by have := set1_lt hs; have := hL.2.2.1; omega) rfl (fun L' hl => kk L' q (LR_set1 hL hs hw hl) hT1)
theorem s_astore_n {i : Fin 4} {x : Nat} {r : List mV} (d : decode (codeOf mi) pc = .ok (.astore_n i, 1)) (hs : set1 ls i.val (.inr (.inr x)) = some ls') : St1 G l mi pc ls (.inr (.inr x) :: r) h (pc + 1) ls' r := by
  intro p e R s m args below meth c C H locs cells slots Q L S hR hS hL hT kk
  obtain ⟨w, q, rfl, hw, hT1⟩ := RL_cons hT
  by_cases h0 : x = 0
  · have e : w = .null := by rw [RV_ref hw, if_pos h0]
    subst e
    exact lv_astore_nN C.1 C.2.1 d rfl (LR_has hL) (by have := set1_lt hs; have := hL.2.2.1; omega) rfl (fun L' hl => kk L' q (LR_set1 hL hs hw hl) hT1)
  · have e := RV_ref1 hw h0
    subst e
    exact lv_astore_n C.1 C.2.1 d rfl (LR_has hL) (by have := set1_lt hs; have := hL.2.2.1; omega) rfl (fun L' hl => kk L' q (LR_set1 hL hs hw hl) hT1)
theorem s_iinc {i : Nat} {n x : Int} (d : decode (codeOf mi) pc = .ok (.iinc i n, 3)) (h1 : -32768 ≤ n) (h2 : n ≤ 32767) (hx : ldI ls i = some x) (hs : set1 ls i (.inl (w32 (x + n))) = some ls') : St1 G l mi pc ls st h (pc + 3) ls' st := by
  intro p e R s m args below meth c C H locs cells slots Q L S hR hS hL hT kk
  obtain ⟨a, ha, hv⟩ := ldI_of hL hx
  have hm : (i, Value.int a) ∈ lvO ls L := by
    unfold ldI at hx
    split at hx
    · rename_i y hy
      exact lvO_mem hy ha
    · cases hx
  obtain ⟨k, hk⟩ := List.mem_iff_getElem?.mp hm
  have hr : RV G (.inl (w32 (x + n))) (.int (a + Int32.ofInt n)) := ⟨_, rfl, by rw [i32_add, hv, i32_of (by omega) (by omega)]⟩
  exact lv_iinc C.1 C.2.1 d (LR_has hL) hk rfl (by have := set1_lt hs; have := hL.2.2.1; omega) rfl (fun L' hl => kk L' S (LR_set1 hL hs hr hl) hT)
theorem s_iconst {n : Int} (d : decode (codeOf mi) pc = .ok (.iconst n, 1)) (h1 : -1 ≤ n) (h2 : n ≤ 5) : St1 G l mi pc ls st h (pc + 1) ls (.inl n :: st) := by
  intro p e R s m args below meth c C H locs cells slots Q L S hR hS hL hT kk
  exact lv_iconst C.1 C.2.1 d rfl (kk L _ hL ⟨⟨_, rfl, i32_of (by omega) (by omega)⟩, hT⟩)
theorem s_bipush {n : Int} (d : decode (codeOf mi) pc = .ok (.bipush n, 2)) (h1 : -128 ≤ n) (h2 : n ≤ 127) : St1 G l mi pc ls st h (pc + 2) ls (.inl n :: st) := by
  intro p e R s m args below meth c C H locs cells slots Q L S hR hS hL hT kk
  exact lv_bipush C.1 C.2.1 d rfl (kk L _ hL ⟨⟨_, rfl, i8_of (by omega) (by omega)⟩, hT⟩)
theorem s_sipush {n : Int} (d : decode (codeOf mi) pc = .ok (.sipush n, 3)) (h1 : -32768 ≤ n) (h2 : n ≤ 32767) : St1 G l mi pc ls st h (pc + 3) ls (.inl n :: st) := by
  intro p e R s m args below meth c C H locs cells slots Q L S hR hS hL hT kk
  exact lv_sipush C.1 C.2.1 d rfl (kk L _ hL ⟨⟨_, rfl, i16_of (by omega) (by omega)⟩, hT⟩)
theorem s_lconst {n : Fin 2} (d : decode (codeOf mi) pc = .ok (.lconst n, 1)) : St1 G l mi pc ls st h (pc + 1) ls (.inr (.inl (n.val : Int)) :: st) := by
  intro p e R s m args below meth c C H locs cells slots Q L S hR hS hL hT kk
  refine lv_lconst C.1 C.2.1 d rfl (kk L _ hL ⟨⟨_, rfl, ?_⟩, hT⟩)
  match n with
  | 0 => rfl
  | 1 => rfl
theorem s_ldcI {k : Nat} {v : Int} (d : decode (codeOf mi) pc = .ok (.ldc k, 2)) (hk : intOf (mown mi) k = some v) : St1 G l mi pc ls st h (pc + 2) ls (.inl v :: st) := by
  intro p e R s m args below meth c C H locs cells slots Q L S hR hS hL hT kk
  obtain ⟨a1, a2, a3⟩ := int_in hk
  exact lv_ldc C.1 C.2.1 C.2.2.2.1 (C.2.2.2.2.1 _ a1) d (kk L _ hL ⟨⟨_, rfl, i32_of (by omega) (by omega)⟩, hT⟩)
theorem s_ldcw {k : Nat} {v : Int} (d : decode (codeOf mi) pc = .ok (.ldc_w k, 3)) (hk : intOf (mown mi) k = some v) : St1 G l mi pc ls st h (pc + 3) ls (.inl v :: st) := by
  intro p e R s m args below meth c C H locs cells slots Q L S hR hS hL hT kk
  obtain ⟨a1, a2, a3⟩ := int_in hk
  exact lv_ldcw C.1 C.2.1 C.2.2.2.1 (C.2.2.2.2.1 _ a1) d (kk L _ hL ⟨⟨_, rfl, i32_of (by omega) (by omega)⟩, hT⟩)
theorem s_ldc2 {k : Nat} {v : Int} (d : decode (codeOf mi) pc = .ok (.ldc2_w k, 3)) (hk : lngOf (mown mi) k = some v) : St1 G l mi pc ls st h (pc + 3) ls (.inr (.inl v) :: st) := by
  intro p e R s m args below meth c C H locs cells slots Q L S hR hS hL hT kk
  obtain ⟨a1, a2, a3⟩ := lng_in hk
  refine lv_ldc2 C.1 C.2.1 C.2.2.2.1 (C.2.2.2.2.1 _ a1) d (kk L _ hL ⟨⟨_, rfl, ?_⟩, hT⟩)
  rw [Int64.toInt_ofInt]
  simp only [Int.bmod, Int64.size]
  split <;> omega
theorem s_ldcS {k a : Nat} (d : decode (codeOf mi) pc = .ok (.ldc k, 2)) (hk : strOf (mown mi) k = some a) : St1 G l mi pc ls st h (pc + 2) ls (.inr (.inr a) :: st) := by
  intro p e R s m args below meth c C H locs cells slots Q L S hR hS hL hT kk
  have h1 := lkp_mem hk
  have hc := getD_lt h1
  have hall : ∀ c, c < 9 → ∀ e ∈ lstr.getD c [], c = 5 ∧ e = (52, 4) := by decide +kernel
  obtain ⟨e1, e2⟩ := hall _ hc _ h1
  cases e2
  have ho : s.vm.findClass (cnm (mown mi)) = some m.cls := C.2.2.2.1
  rw [e1] at ho
  exact va_ldcS C.1 C.2.1 ho C.2.2.2.2.2.2.2.2.2.2.1.2.2.2.2.2.1 d (kk L _ hL ⟨rfl, hT⟩)
theorem s_bin {f : Int → Int → Int} {g : Int32 → Int32 → Int32} {x y : Int} {r : List mV} (hfg : ∀ a b : Int32, (g a b).toInt = f a.toInt b.toInt)
    (hw : ∀ (p : Program) (e : Env) (R : Room) (s : State) (m : MethodId) (args : Array Value) (below : List Frame) (meth : Method) (c : Code) (H : Heap) (locs : List Loc) (cells slots : Nat) (Q : State → Prop) (L : Array Slot) (rest : List Value) (a b : Int32), p.tables.exec = Jvm.exec → c.code = codeOf mi →
      W p l e R s m args below meth c H locs cells slots Q (F0 m (pc + 1) L (.int (g a b) :: rest)) → W p l e R s m args below meth c H locs cells slots Q (F0 m pc L (.int b :: .int a :: rest))) : St1 G l mi pc ls (.inl y :: .inl x :: r) h (pc + 1) ls (.inl (f x y) :: r) := by
  intro p e R s m args below meth c C H locs cells slots Q L S hR hS hL hT kk
  obtain ⟨w, q, rfl, ⟨b, rfl, hb⟩, hT1⟩ := RL_cons hT
  obtain ⟨w, q, rfl, ⟨a, rfl, ha⟩, hT2⟩ := RL_cons hT1
  exact hw p e R s m args below meth c H locs cells slots Q L q a b C.1 C.2.1 (kk L _ hL ⟨⟨_, rfl, by rw [hfg, ha, hb]⟩, hT2⟩)
theorem s_binJ {f : Int → Int → Int} {g : Int64 → Int64 → Int64} {x y : Int} {r : List mV} (hfg : ∀ a b : Int64, (g a b).toInt = f a.toInt b.toInt)
    (hw : ∀ (p : Program) (e : Env) (R : Room) (s : State) (m : MethodId) (args : Array Value) (below : List Frame) (meth : Method) (c : Code) (H : Heap) (locs : List Loc) (cells slots : Nat) (Q : State → Prop) (L : Array Slot) (rest : List Value) (a b : Int64), p.tables.exec = Jvm.exec → c.code = codeOf mi →
      W p l e R s m args below meth c H locs cells slots Q (F0 m (pc + 1) L (.long (g a b) :: rest)) → W p l e R s m args below meth c H locs cells slots Q (F0 m pc L (.long b :: .long a :: rest))) : St1 G l mi pc ls (.inr (.inl y) :: .inr (.inl x) :: r) h (pc + 1) ls (.inr (.inl (f x y)) :: r) := by
  intro p e R s m args below meth c C H locs cells slots Q L S hR hS hL hT kk
  obtain ⟨w, q, rfl, ⟨b, rfl, hb⟩, hT1⟩ := RL_cons hT
  obtain ⟨w, q, rfl, ⟨a, rfl, ha⟩, hT2⟩ := RL_cons hT1
  exact hw p e R s m args below meth c H locs cells slots Q L q a b C.1 C.2.1 (kk L _ hL ⟨⟨_, rfl, by rw [hfg, ha, hb]⟩, hT2⟩)
theorem s_idiv {x y : Int} {r : List mV} (d : decode (codeOf mi) pc = .ok (.idiv, 1)) (hy : ¬ y = 0) : St1 G l mi pc ls (.inl y :: .inl x :: r) h (pc + 1) ls (.inl (w32 (x.tdiv y)) :: r) := by
  intro p e R s m args below meth c C H locs cells slots Q L S hR hS hL hT kk
  obtain ⟨w, q, rfl, ⟨b, rfl, hb⟩, hT1⟩ := RL_cons hT
  obtain ⟨w, q, rfl, ⟨a, rfl, ha⟩, hT2⟩ := RL_cons hT1
  exact lv_idiv C.1 C.2.1 d (fun q => hy (by rw [← hb, q]; rfl)) (kk L _ hL ⟨⟨_, rfl, by rw [i32_div, ha, hb]⟩, hT2⟩)
theorem s_irem {x y : Int} {r : List mV} (d : decode (codeOf mi) pc = .ok (.irem, 1)) (hy : ¬ y = 0) : St1 G l mi pc ls (.inl y :: .inl x :: r) h (pc + 1) ls (.inl (x.tmod y) :: r) := by
  intro p e R s m args below meth c C H locs cells slots Q L S hR hS hL hT kk
  obtain ⟨w, q, rfl, ⟨b, rfl, hb⟩, hT1⟩ := RL_cons hT
  obtain ⟨w, q, rfl, ⟨a, rfl, ha⟩, hT2⟩ := RL_cons hT1
  exact lv_irem C.1 C.2.1 d (fun q => hy (by rw [← hb, q]; rfl)) (kk L _ hL ⟨⟨_, rfl, by rw [i32_rem, ha, hb]⟩, hT2⟩)
theorem s_lrem {x y : Int} {r : List mV} (d : decode (codeOf mi) pc = .ok (.lrem, 1)) (hy : ¬ y = 0) : St1 G l mi pc ls (.inr (.inl y) :: .inr (.inl x) :: r) h (pc + 1) ls (.inr (.inl (x.tmod y)) :: r) := by
  intro p e R s m args below meth c C H locs cells slots Q L S hR hS hL hT kk
  obtain ⟨w, q, rfl, ⟨b, rfl, hb⟩, hT1⟩ := RL_cons hT
  obtain ⟨w, q, rfl, ⟨a, rfl, ha⟩, hT2⟩ := RL_cons hT1
  exact lv_lrem C.1 C.2.1 d (fun q => hy (by rw [← hb, q]; rfl)) (kk L _ hL ⟨⟨_, rfl, by rw [i64_rem, ha, hb]⟩, hT2⟩)
theorem s_lcmp {x y : Int} {r : List mV} (d : decode (codeOf mi) pc = .ok (.lcmp, 1)) : St1 G l mi pc ls (.inr (.inl y) :: .inr (.inl x) :: r) h (pc + 1) ls (.inl (icmp x y) :: r) := by
  intro p e R s m args below meth c C H locs cells slots Q L S hR hS hL hT kk
  obtain ⟨w, q, rfl, ⟨b, rfl, hb⟩, hT1⟩ := RL_cons hT
  obtain ⟨w, q, rfl, ⟨a, rfl, ha⟩, hT2⟩ := RL_cons hT1
  refine W.lcmp C.1 C.2.1 d (kk L _ hL ⟨⟨_, rfl, ?_⟩, hT2⟩)
  unfold icmp lg_cmp
  simp only [gt_iff_lt, Int64.lt_iff_toInt_lt, ← Int64.toInt_inj, ha, hb]
  split
  · rfl
  · split <;> rfl
theorem s_i2l {x : Int} {r : List mV} (d : decode (codeOf mi) pc = .ok (.i2l, 1)) : St1 G l mi pc ls (.inl x :: r) h (pc + 1) ls (.inr (.inl x) :: r) := by
  intro p e R s m args below meth c C H locs cells slots Q L S hR hS hL hT kk
  obtain ⟨w, q, rfl, ⟨a, rfl, ha⟩, hT1⟩ := RL_cons hT
  exact lv_i2l C.1 C.2.1 d rfl (kk L _ hL ⟨⟨_, rfl, by rw [i32_i64, ha]⟩, hT1⟩)
theorem s_l2i {x : Int} {r : List mV} (d : decode (codeOf mi) pc = .ok (.l2i, 1)) : St1 G l mi pc ls (.inr (.inl x) :: r) h (pc + 1) ls (.inl (w32 x) :: r) := by
  intro p e R s m args below meth c C H locs cells slots Q L S hR hS hL hT kk
  obtain ⟨w, q, rfl, ⟨a, rfl, ha⟩, hT1⟩ := RL_cons hT
  exact lv_l2i C.1 C.2.1 d rfl (kk L _ hL ⟨⟨_, rfl, by rw [i64_i32, ha]⟩, hT1⟩)
theorem s_i2b {x : Int} {r : List mV} (d : decode (codeOf mi) pc = .ok (.i2b, 1)) : St1 G l mi pc ls (.inl x :: r) h (pc + 1) ls (.inl (w8 x) :: r) := by
  intro p e R s m args below meth c C H locs cells slots Q L S hR hS hL hT kk
  obtain ⟨w, q, rfl, ⟨a, rfl, ha⟩, hT1⟩ := RL_cons hT
  exact lv_i2b C.1 C.2.1 d rfl (kk L _ hL ⟨⟨_, rfl, by rw [i32_i8, ha]⟩, hT1⟩)
theorem s_dup {v : mV} {r : List mV} (d : decode (codeOf mi) pc = .ok (.dup, 1)) (hv : catV v = 1) : St1 G l mi pc ls (v :: r) h (pc + 1) ls (v :: v :: r) := by
  intro p e R s m args below meth c C H locs cells slots Q L S hR hS hL hT kk
  obtain ⟨w, q, rfl, hw, hT1⟩ := RL_cons hT
  exact lv_dup C.1 C.2.1 d (by rw [RV_cat hw, hv]) (kk L _ hL ⟨hw, hw, hT1⟩)
theorem s_dup2 {v u : mV} {r : List mV} (d : decode (codeOf mi) pc = .ok (.dup2, 1)) (hv : catV v = 1) (hu : catV u = 1) : St1 G l mi pc ls (v :: u :: r) h (pc + 1) ls (v :: u :: v :: u :: r) := by
  intro p e R s m args below meth c C H locs cells slots Q L S hR hS hL hT kk
  obtain ⟨w, q, rfl, hw, hT1⟩ := RL_cons hT
  obtain ⟨w', q, rfl, hw', hT2⟩ := RL_cons hT1
  exact lv_dup2_11 C.1 C.2.1 d (by rw [RV_cat hw, hv]) (by rw [RV_cat hw', hu]) (kk L _ hL ⟨hw, hw', hw, hw', hT2⟩)
theorem s_pop {v : mV} {r : List mV} (d : decode (codeOf mi) pc = .ok (.pop, 1)) (hv : catV v = 1) : St1 G l mi pc ls (v :: r) h (pc + 1) ls r := by
  intro p e R s m args below meth c C H locs cells slots Q L S hR hS hL hT kk
  obtain ⟨w, q, rfl, hw, hT1⟩ := RL_cons hT
  exact lv_pop C.1 C.2.1 d (by rw [RV_cat hw, hv]) (kk L _ hL hT1)
end Steps

/-! new int[n][k]: the machine's step, by rounds of its loop: each round makes a row and writes its place into the outer array -/
def mgR (comp : ClassId) (k : Nat) : Cell := { cls := comp, slots := Array.replicate k (.int 0) }
def mgN (a : Nat) (r : Cell) (i : Nat) (U : State) : State := (U.pushCell r).setCell a (((U.heap[a]?).getD r).setSlot i (.ref U.heap.size))
def mgS (a : Nat) (r : Cell) (U : State) : Nat → State
  | 0 => U
  | i + 1 => mgN a r i (mgS a r U i)
/-- after i rounds: what was there is there, the outer array knows its first i rows, the rows are there -/
def mgI (a : Nat) (cA : ClassId) (r : Cell) (n : Nat) (V : State) (i : Nat) (U : State) : Prop :=
  U.vm = V.vm ∧ U.heap.size = a + 1 + i ∧ (∀ x : Nat, x < a → U.heap[x]? = V.heap[x]?) ∧
  (∃ o : Cell, U.heap[a]? = some o ∧ o.cls = cA ∧ o.vm = .none ∧ o.slots.size = n ∧ ∀ j : Nat, j < n → o.slots[j]? = some (if j < i then .ref (a + 1 + j) else .null)) ∧
  ∀ j : Nat, j < i → U.heap[a + 1 + j]? = some r
theorem mgI_0 (V : State) (cA : ClassId) (r : Cell) (n : Nat) : mgI V.heap.size cA r n V 0 (V.pushCell { cls := cA, slots := Array.replicate n .null }) := by
  refine ⟨rfl, by simp, fun x hx => State.heap_pushCell_of_lt _ _ hx, ⟨_, State.heap_pushCell_size _ _, rfl, rfl, by simp, fun j hj => ?_⟩, fun j hj => absurd hj (Nat.not_lt_zero j)⟩
  rw [if_neg (Nat.not_lt_zero j), Array.getElem?_replicate, if_pos hj]
theorem mgI_s {a : Nat} {cA : ClassId} {r : Cell} {n i : Nat} {V U : State} (h : mgI a cA r n V i U) (hi : i < n) : mgI a cA r n V (i + 1) (mgN a r i U) := by
  obtain ⟨h1, h2, h3, ⟨o, o1, o2, o3, o4, o5⟩, h5⟩ := h
  have ha : a < U.heap.size := by omega
  have eo : (U.heap[a]?).getD r = o := by rw [o1]; rfl
  have hpa : (U.pushCell r).heap[a]? = some o := by rw [State.heap_pushCell_of_lt (h := ha)]; exact o1
  unfold mgN
  rw [eo, h2]
  refine ⟨h1, ?_, fun x hx => ?_, ⟨_, State.heap_setCell_self hpa, o2, o3, ?_, fun j hj => ?_⟩, fun j hj => ?_⟩
  · have : ((U.pushCell r).setCell a (o.setSlot i (.ref (a + 1 + i)))).heap.size = U.heap.size + 1 := by simp [State.setCell]
    omega
  · have q : x < U.heap.size := Nat.lt_trans hx ha
    rw [State.heap_setCell_other (Nat.ne_of_gt hx), State.heap_pushCell_of_lt (h := q)]
    exact h3 x hx
  · simp [Cell.setSlot, o4]
  · by_cases e : j = i
    · subst e
      rw [if_pos (Nat.lt_succ_self j)]
      simp [Cell.setSlot, o4, hj]
    · have := o5 j hj
      have e3 : (o.setSlot i (.ref (a + 1 + i))).slots[j]? = o.slots[j]? := by
        simp only [Cell.setSlot]
        exact Array.getElem?_setIfInBounds_ne (fun q => e q.symm)
      rw [e3, this]
      by_cases q : j < i
      · rw [if_pos q, if_pos (by omega)]
      · rw [if_neg q, if_neg (by omega)]
  · have q : a ≠ a + 1 + j := by omega
    rw [State.heap_setCell_other q]
    by_cases e : j = i
    · subst e
      rw [← h2]
      exact State.heap_pushCell_size _ _
    · have q2 : a + 1 + j < U.heap.size := by omega
      rw [State.heap_pushCell_of_lt (h := q2)]
      exact h5 j (by omega)
theorem mgI_at {a : Nat} {cA : ClassId} {r : Cell} {n : Nat} {V U : State} (h : mgI a cA r n V 0 U) : ∀ i, i ≤ n → mgI a cA r n V i (mgS a r U i)
  | 0, _ => h
  | i + 1, hi => mgI_s (mgI_at h i (Nat.le_of_succ_le hi)) hi
section Mg
variable {p : Program} {l : Launch} {e : Env} {R : Room} {s : State} {m : MethodId} {args : Array Value} {below : List Frame} {meth : Method} {c : Code} {locs : List Loc} {cells slots : Nat}
theorem mg_stand {a : Nat} {cA : ClassId} {r : Cell} {n : Nat} {V U : State} (h : mgI a cA r n V 0 U) (ha : s.heap.size ≤ a) (X : Stand p l e R s m args below meth c U locs cells slots) :
    ∀ i, i ≤ n → Stand p l e R s m args below meth c (mgS a r U i) locs (cells + i) (slots + i * r.slots.size)
  | 0, _ => by rw [Nat.zero_mul]; exact X
  | i + 1, hi => by
    have Y := (mg_stand h ha X i (Nat.le_of_succ_le hi)).pushed r
    obtain ⟨-, h2, -, ⟨o, o1, -, -, -, -⟩, -⟩ := mgI_at h i (Nat.le_of_succ_le hi)
    have hlt : a < (mgS a r U i).heap.size := by omega
    have hpa : ((mgS a r U i).pushCell r).heap[a]? = some o := by rw [State.heap_pushCell_of_lt (h := hlt)]; exact o1
    have Z := (Y.stored hpa i (.ref (mgS a r U i).heap.size)).dropFresh (fun x hx => by rw [List.mem_singleton.mp hx]; exact ha)
    have e1 : mgS a r U (i + 1) = ((mgS a r U i).pushCell r).setCell a (o.setSlot i (.ref (mgS a r U i).heap.size)) := by
      show mgN a r i (mgS a r U i) = _
      unfold mgN
      rw [o1]
      rfl
    rw [e1, Nat.succ_mul, ← Nat.add_assoc, ← Nat.add_assoc]
    exact Z
end Mg
section Mw
variable {E : CtlPost} {e : Env} {d : Bool} {acts : List Action}
/-- the model's word for a row -/
theorem mg_row {Y : State} {comp cc : ClassId} {kC : Class} {y : Int32} (hk : Y.vm.classes[comp]? = some kC) (hkind : kC.kind = .array cc .int) (hy : ¬ y < 0)
    (b1 : ¬ y.toNatClampNeg > e.platform.arrayLengthLimit) (b2 : ¬ y.toNatClampNeg * 4 > e.platform.maxHeapBytes) (r1 : Y.heap.size + 1 ≤ e.platform.maxCells) (r2 : Y.slotsUsed + y.toNatClampNeg ≤ e.platform.maxSlots)
    {Q : Addr → Pre} (hq : ∀ acts', Q Y.heap.size d acts' (Y.pushCell (mgR comp y.toNatClampNeg))) : wp (Op.multianewarray.make comp [y]) Q E e d acts Y := by
  rw [Op.multianewarray.make]
  simp only [wp_bind', W.ite, hy, if_false, wp_pure', W.theClass, hk, hkind, Option.some.injEq, exists_eq_left']
  exact W.newArray_of hk hkind b1 b2 r1 r2 rfl hq
/-- the model's word for both dimensions -/
theorem mg_make {V : State} {f : JFrame} {cA comp cc : ClassId} {kA kC : Class} {x y : Int32} (hkA : V.vm.classes[cA]? = some kA) (hkindA : kA.kind = .array comp (.array .int)) (hkC : V.vm.classes[comp]? = some kC) (hkindC : kC.kind = .array cc .int)
    (hx : ¬ x < 0) (hy : ¬ y < 0) (a1 : ¬ x.toNatClampNeg > e.platform.arrayLengthLimit) (a2 : ¬ x.toNatClampNeg * 4 > e.platform.maxHeapBytes) (b1 : ¬ y.toNatClampNeg > e.platform.arrayLengthLimit) (b2 : ¬ y.toNatClampNeg * 4 > e.platform.maxHeapBytes)
    (r1 : V.heap.size + 1 ≤ e.platform.maxCells) (r2 : V.slotsUsed + x.toNatClampNeg ≤ e.platform.maxSlots)
    (r3 : ∀ i, i < x.toNatClampNeg → (mgS V.heap.size (mgR comp y.toNatClampNeg) (V.pushCell { cls := cA, slots := Array.replicate x.toNatClampNeg .null }) i).heap.size + 1 ≤ e.platform.maxCells ∧
      (mgS V.heap.size (mgR comp y.toNatClampNeg) (V.pushCell { cls := cA, slots := Array.replicate x.toNatClampNeg .null }) i).slotsUsed + y.toNatClampNeg ≤ e.platform.maxSlots)
    {Q : Addr → Pre} (hq : ∀ d' acts', Q V.heap.size d' acts' ((mgS V.heap.size (mgR comp y.toNatClampNeg) (V.pushCell { cls := cA, slots := Array.replicate x.toNatClampNeg .null }) x.toNatClampNeg).setTop f)) :
    wp (Op.multianewarray.make cA [x, y]) Q E e d acts (V.setTop f) := by
  have h0 := mgI_0 V cA (mgR comp y.toNatClampNeg) x.toNatClampNeg
  generalize hU : V.pushCell { cls := cA, slots := Array.replicate x.toNatClampNeg .null } = U at h0 r3 hq
  have nf : [y].find? (fun z => decide (z < 0)) = none := by simp [hy]
  rw [Op.multianewarray.make]
  simp only [wp_bind', W.ite, hx, if_false, wp_pure', W.theClass, State.vm_setTop, hkA, hkindA, Option.some.injEq, exists_eq_left']
  refine W.newArray_of (s := V.setTop f) hkA hkindA a1 a2 r1 r2 rfl (fun acts1 => ?_)
  simp only [nf, ite_self]
  rw [wp_bind', Std.Legacy.Range.forIn_eq_forIn_range']
  have e0 : (V.setTop f).pushCell { cls := cA, slots := Array.replicate x.toNatClampNeg .null } = (mgS V.heap.size (mgR comp y.toNatClampNeg) U 0).setTop f := by rw [← hU]; rfl
  rw [e0]
  refine wp_forIn_inv (fun todo Y => ∃ i, i ≤ x.toNatClampNeg ∧ todo = List.range' i (x.toNatClampNeg - i) ∧ Y = (mgS V.heap.size (mgR comp y.toNatClampNeg) U i).setTop f) _ _ ⟨0, Nat.zero_le _, by simp [Std.Legacy.Range.size], rfl⟩ ?_ ?_
  · rintro z todo Y d1 acts2 Q1 ⟨i, hi, ht, rfl⟩ nxt
    have hl := congrArg List.length ht
    rw [List.length_range', List.length_cons] at hl
    have hlt : i < x.toNatClampNeg := by omega
    rw [show x.toNatClampNeg - i = (x.toNatClampNeg - (i + 1)) + 1 from by omega, List.range'_succ] at ht
    obtain ⟨rfl, ht2⟩ := List.cons.inj ht
    obtain ⟨v1, v2, -, ⟨o, o1, o2, o3, o4, -⟩, -⟩ := mgI_at h0 z hi
    obtain ⟨q1, q2⟩ := r3 z hlt
    simp only [wp_bind']
    refine mg_row (Y := (mgS V.heap.size (mgR comp y.toNatClampNeg) U z).setTop f) (kC := kC) (cc := cc) (by rw [State.vm_setTop, v1]; exact hkC) hkindC hy b1 b2 q1 q2 (fun acts3 => ?_)
    have hva : V.heap.size < (mgS V.heap.size (mgR comp y.toNatClampNeg) U z).heap.size := by omega
    simp only [wp_bind', W.writeLoc, wp_pure']
    refine ⟨o, ?_, by rw [o3]; exact fun q => VmData.noConfusion q, by rw [o4]; exact hlt, ?_, nxt _ _ _ ⟨z + 1, hlt, ht2, ?_⟩⟩
    · show ((mgS V.heap.size (mgR comp y.toNatClampNeg) U z).pushCell (mgR comp y.toNatClampNeg)).heap[V.heap.size]? = some o
      rw [State.heap_pushCell_of_lt (h := hva)]
      exact o1
    · rw [o2, o3]
      simp [State.fitsSlot, State.slotType?, v1, hkA, hkindA, fits]
    · show (((mgS V.heap.size (mgR comp y.toNatClampNeg) U z).pushCell (mgR comp y.toNatClampNeg)).setCell V.heap.size _).setTop f = (mgN V.heap.size (mgR comp y.toNatClampNeg) z (mgS V.heap.size (mgR comp y.toNatClampNeg) U z)).setTop f
      unfold mgN
      rw [o1]
      rfl
  · rintro Y d1 acts2 ⟨i, hi, ht, rfl⟩
    have hi2 : i = x.toNatClampNeg := by
      have := congrArg List.length ht
      rw [List.length_range', List.length_nil] at this
      omega
    subst hi2
    exact hq _ _
end Mw
section Ms
variable {p : Program} {l : Launch} {e : Env} {R : Room} {s : State} {m : MethodId} {args : Array Value} {below : List Frame} {meth : Method} {c : Code} {T : State} {locs : List Loc} {cells slots : Nat}
/-- the instruction: where it stands behind it, and that it comes there -/
theorem mg_step (X : Stand p l e R s m args below meth c T locs cells slots) (hexec : p.tables.exec = Jvm.exec) {own : String} {index : Nat} (hown : s.vm.findClass own = some m.cls)
    (hlink : (Cond.classLink own index ("[" ++ (FieldType.array .int).toString)).before args s = true) (hao : aov s) (hac : (Cond.arrayClass .int).before args s = true) {pc : Nat} {L : Array Slot} {S : List Value} {x y : Int32}
    (hd : decode c.code pc = .ok (.multianewarray index 2, 4)) (hx : ¬ x < 0) (hy : ¬ y < 0) (bx : x.toNatClampNeg ≤ 100) (hby : y.toNatClampNeg ≤ 1000)
    (hc : cells + (1 + x.toNatClampNeg) ≤ R.cells) (hs : slots + (x.toNatClampNeg + x.toNatClampNeg * y.toNatClampNeg) ≤ R.slots) :
    ∃ (V U : State) (cA comp : ClassId), V.heap = T.heap ∧ mgI T.heap.size cA (mgR comp y.toNatClampNeg) x.toNatClampNeg V x.toNatClampNeg U ∧ (∀ o : Cell, o.cls = cA → o.vm = .none → s.isArrayOf o (.array .int)) ∧
      s.isArrayOf (mgR comp y.toNatClampNeg) .int ∧ Stand p l e R s m args below meth c U locs (cells + (1 + x.toNatClampNeg)) (slots + (x.toNatClampNeg + x.toNatClampNeg * y.toNatClampNeg)) ∧
      ∀ t, Steps p.tables e below (U.setTop (F0 m (pc + 4) L (.ref T.heap.size :: S))) t → Steps p.tables e below (T.setTop (F0 m pc L (.int y :: .int x :: S))) t := by
  obtain ⟨comp, cA, kA, f1, -, hkA, hkindA, f2⟩ := aov_spec hao
  obtain ⟨comp', kC, cc, f3, hkC, hkindC⟩ := Cond.arrayClass_spec hac
  have ec : comp' = comp := Option.some.inj (f3.symm.trans f1)
  subst ec
  obtain ⟨cB, f4, hcl⟩ := Cond.classLink_spec hown hlink e.platform (by rw [X.admits.platform])
  have eB : cB = cA := Option.some.inj (f4.symm.trans f2)
  subst eB
  obtain ⟨hres, hwarm, -⟩ := State.classEntry (e := e) X.warmed hcl
  generalize T.vm.noted m.cls index (.cls cB) = vm1 at hres hwarm
  obtain ⟨kA1, hkA1, eA⟩ := hwarm.alike.2.2 _ _ hkA
  obtain ⟨kC1, hkC1, eC⟩ := hwarm.alike.2.2 _ _ hkC
  have hkindA1 : kA1.kind = .array comp' (.array .int) := by rw [eA]; exact hkindA
  have hkindC1 : kC1.kind = .array cc .int := by rw [eC]; exact hkindC
  have X1 := X.noted hwarm
  have X2 := X1.pushed { cls := cB, slots := Array.replicate x.toNatClampNeg .null }
  have h0 := mgI_0 (T.setVm vm1) cB (mgR comp' y.toNatClampNeg) x.toNatClampNeg
  have hrs : (mgR comp' y.toNatClampNeg).slots.size = y.toNatClampNeg := by simp [mgR]
  have XS := mg_stand h0 X1.heapGrown X2
  rw [hrs, Array.size_replicate] at XS
  have hI := mgI_at h0 x.toNatClampNeg (Nat.le_refl _)
  refine ⟨T.setVm vm1, mgS T.heap.size (mgR comp' y.toNatClampNeg) ((T.setVm vm1).pushCell { cls := cB, slots := Array.replicate x.toNatClampNeg .null }) x.toNatClampNeg, cB, comp', rfl, hI, fun o q1 q2 => ⟨fun k q => VmData.noConfusion (q2.symm.trans q), kA, by rw [q1]; exact hkA, comp', hkindA⟩,
    ⟨fun k q => VmData.noConfusion q, kC, hkC, cc, hkindC⟩, by have := XS _ (Nat.le_refl _); rw [Nat.add_assoc, Nat.add_assoc] at this; exact this, fun t ht => ?_⟩
  have a1 : ¬ x.toNatClampNeg > e.platform.arrayLengthLimit := by rw [Launch.admits_arrayLengthLimit X.admits]; omega
  have a2 : ¬ x.toNatClampNeg * 4 > e.platform.maxHeapBytes := by rw [Launch.admits_maxHeapBytes X.admits]; omega
  have b1 : ¬ y.toNatClampNeg > e.platform.arrayLengthLimit := by rw [Launch.admits_arrayLengthLimit X.admits]; omega
  have b2 : ¬ y.toNatClampNeg * 4 > e.platform.maxHeapBytes := by rw [Launch.admits_maxHeapBytes X.admits]; omega
  obtain ⟨r1, r2⟩ := X1.roomAbove (a := 1) (b := x.toNatClampNeg) (by omega) (by omega)
  have r3 : ∀ i, i < x.toNatClampNeg → (mgS T.heap.size (mgR comp' y.toNatClampNeg) ((T.setVm vm1).pushCell { cls := cB, slots := Array.replicate x.toNatClampNeg .null }) i).heap.size + 1 ≤ e.platform.maxCells ∧
      (mgS T.heap.size (mgR comp' y.toNatClampNeg) ((T.setVm vm1).pushCell { cls := cB, slots := Array.replicate x.toNatClampNeg .null }) i).slotsUsed + y.toNatClampNeg ≤ e.platform.maxSlots := fun i hi => by
    have hm : (i + 1) * y.toNatClampNeg ≤ x.toNatClampNeg * y.toNatClampNeg := Nat.mul_le_mul_right _ hi
    rw [Nat.succ_mul] at hm
    exact (XS i (Nat.le_of_lt hi)).roomAbove (by omega) (by omega)
  have XF2 := XS x.toNatClampNeg (Nat.le_refl _)
  jvm_step X.here [hexec, hd]
  simp only [Op.multianewarray.sem, wp_bind', W.resolveClassAt_links (State.method?_setTop (F0 m pc L (.int y :: .int x :: S)) X.here.top) hres]
  rw [W.popN, if_neg (by decide)]
  refine ⟨_, State.topJava?_setTop' (s := T.setVm vm1) (F0 m pc L (.int y :: .int x :: S)) X.here.top, [.int x, .int y], S, rfl, rfl, ?_⟩
  simp only [List.mapM_cons, List.mapM_nil, wp_bind', wp_pure']
  have eT : ((T.setTop (F0 m pc L (.int y :: .int x :: S))).setVm vm1).setTop (F0 m pc L S) = (T.setVm vm1).setTop (F0 m pc L S) := State.setTop_setTop (T.setVm vm1) (F0 m pc L (.int y :: .int x :: S)) (F0 m pc L S)
  rw [eT]
  refine mg_make (V := T.setVm vm1) (f := F0 m pc L S) hkA1 hkindA1 hkC1 hkindC1 hx hy a1 a2 b1 b2 r1 r2 r3 (fun d1 acts1 => ?_)
  simp only [wp_bind', W.mark, W.pushRef, State.topJava?_setTop' _ XF2.here.top, Option.some.injEq, exists_eq_left', State.setTop_setTop]
  intro acts2
  simp [jvm, XF2.here.top]
  exact ht
end Ms
section Steps
variable {G : mG} {l : Launch} {mi pc : Nat} {ls ls' : mL} {st : List mV} {h : mH}
theorem grd_in : Cond.classLink (cnm 3) 9 ("[" ++ (FieldType.array .int).toString) ∈ gtbl := by
  refine wAt_in (ps := [239]) (ws := [Cond.classLink (cnm 3) 9 ("[" ++ (FieldType.array .int).toString)]) (by decide +kernel) (by decide +kernel) List.mem_cons_self
theorem mgrd_1 (h : mH) (n k : Nat) : (mgrd h n k).1 = h.1 ++ (13, n) :: List.replicate n (10, k) := rfl
theorem s_grid {n1 n2 : Int} {r : List mV} (d : decode (codeOf mi) pc = .ok (.multianewarray 9 2, 4)) (hm : mown mi = 3) (a1 : 0 ≤ n1) (a2 : n1 ≤ 100) (b1 : 0 ≤ n2) (b2 : n2 ≤ 1000) :
    St3 G l mi pc ls (.inl n2 :: .inl n1 :: r) h (pc + 4) ls (.inr (.inr h.1.length) :: r) (mgrd h n1.toNat n2.toNat) (1 + n1.toNat) (n1.toNat + n1.toNat * n2.toNat) := by
  refine ⟨⟨by rw [mgrd_1]; exact List.prefix_append _ _, by rw [mgrd_1, List.length_append, List.length_cons, List.length_replicate]; omega, ?_⟩, ?_⟩
  · unfold msz
    rw [mgrd_1, List.map_append, List.sum_append, List.map_cons, List.sum_cons, List.map_replicate, List.sum_replicate_nat]
  intro p e R s m args below meth c C H locs cells slots Q L S hR hS hL hT hc hsl kk
  obtain ⟨w, S1, rfl, ⟨x2, rfl, rfl⟩, hT1⟩ := RL_cons hT
  obtain ⟨w, S2, rfl, ⟨x1, rfl, rfl⟩, hT2⟩ := RL_cons hT1
  have hts := C.2.2.2.2.1
  have z : (0 : Int32).toInt = 0 := rfl
  have hn : ¬ x1 < 0 := fun q => by rw [Int32.lt_iff_toInt_lt] at q; omega
  have hk : ¬ x2 < 0 := fun q => by rw [Int32.lt_iff_toInt_lt] at q; omega
  have ho := C.2.2.2.1
  rw [hm] at ho
  have haov : aov s := C.2.2.2.2.2.2.2.2.2.2.1.2.2.2.2.1
  have hN : x1.toNatClampNeg = x1.toInt.toNat := i32_cl x1
  have hM : x2.toNatClampNeg = x2.toInt.toNat := i32_cl x2
  have hmul : x1.toInt.toNat * x2.toInt.toNat ≤ 100 * 1000 := Nat.mul_le_mul (by omega) (by omega)
  intro T hT0 X
  obtain ⟨V, F, cA, comp, hV, hI, hO, hIn, X', step⟩ := mg_step X C.1 ho (hts _ grd_in) haov (hts _ arc_in.1) (L := L) (S := S2) (by rw [C.2.1]; exact d) hn hk (by omega) (by omega) (by rw [hN]; exact hc) (by rw [hN, hM]; exact hsl)
  rw [hN, hM] at X' hI
  rw [hM] at hIn
  obtain ⟨-, f1, hold, ⟨o, f2, o1, o2, o3, o4⟩, hrow⟩ := hI
  rw [hV] at hold
  rw [hT0] at f1 hold f2 o4 hrow
  have hlen : (mgrd h x1.toInt.toNat x2.toInt.toNat).1.length = h.1.length + 1 + x1.toInt.toNat := by rw [mgrd_1, List.length_append, List.length_cons, List.length_replicate]; omega
  have hro : ∀ j, rho G (h.1.length + 1 + j) = H.size + 1 + j := fun j => by
    unfold rho
    rw [if_neg (by have := hR.2.1; omega), hR.1]
    have := hR.2.1
    omega
  have hRep : Rep G s (mgrd h x1.toInt.toNat x2.toInt.toNat) F.heap := by
    have hR0 := hR
    obtain ⟨r1, r2, r3, r4⟩ := hR
    refine ⟨by rw [f1, hlen, r1]; omega, by rw [hlen]; omega, r3, fun k q hk hkq => ?_⟩
    rw [mgrd_1] at hkq
    by_cases hlt : k < h.1.length
    · rw [List.getElem?_append_left hlt] at hkq
      obtain ⟨cl, h5, h6⟩ := r4 k q hk hkq
      refine ⟨cl, by rw [hold _ (Array.getElem?_eq_some_iff.mp h5).1]; exact h5, ?_⟩
      have : (mgrd h x1.toInt.toNat x2.toInt.toNat).2 k = h.2 k := by funext i; simp [mgrd, Nat.ne_of_lt hlt, Nat.not_lt.mpr (Nat.le_of_lt hlt)]
      rw [this]
      exact h6
    · rw [List.getElem?_append_right (Nat.not_lt.mp hlt)] at hkq
      by_cases hk2 : k = h.1.length
      · subst hk2
        rw [Nat.sub_self] at hkq
        cases hkq
        refine ⟨_, by rw [rho_new hR0]; exact f2, Or.inr (Or.inl ⟨by omega, by omega, by omega, hO o o1 o2, by rw [o2]; exact fun q => VmData.noConfusion q, o3, fun j hj => ⟨_, o4 j hj, ?_⟩⟩)⟩
        have e : (mgrd h x1.toInt.toNat x2.toInt.toNat).2 h.1.length j = ((h.1.length + 1 + j : Nat) : Int) := by
          have hj' : j < x1.toInt.toNat := hj
          simp only [mgrd]
          rw [if_pos trivial, if_pos hj']
        rw [e]
        unfold RS
        rw [if_pos rfl, if_pos hj]
        refine ⟨by omega, ?_⟩
        show Value.ref (H.size + 1 + j) = _
        rw [Int.toNat_natCast, if_neg (by omega), hro]
      · obtain ⟨j, rfl⟩ : ∃ j, k = h.1.length + 1 + j := ⟨k - h.1.length - 1, by omega⟩
        have e9 : h.1.length + 1 + j - h.1.length = j + 1 := by omega
        rw [e9, List.getElem?_cons_succ] at hkq
        have hj : j < x1.toInt.toNat := by
          have := (List.getElem?_eq_some_iff.mp hkq).1
          rwa [List.length_replicate] at this
        rw [List.getElem?_replicate, if_pos hj] at hkq
        cases hkq
        refine ⟨_, by rw [hro]; exact hrow j hj, Or.inr (Or.inl ⟨by omega, by omega, by omega, hIn, fun q => VmData.noConfusion q, by simp [mgR], fun i hi => ⟨.int 0, ?_, ?_⟩⟩)⟩
        · simp only [mgR]
          rw [Array.getElem?_replicate, if_pos hi]
        · have e : (mgrd h x1.toInt.toNat x2.toInt.toNat).2 (h.1.length + 1 + j) i = 0 := by
            simp only [mgrd]
            rw [if_neg (by omega), if_pos (by omega)]
          rw [e]
          exact ⟨0, rfl, rfl⟩
  obtain ⟨t', q1, q2⟩ := kk F.heap locs L (.ref T.heap.size :: S2) hRep (vaS_new hS (by rw [f1]; omega) hold) hL ⟨by
    show Value.ref T.heap.size = _
    rw [if_neg (by have := hR.2.1; omega), rho_new hR, hT0], hT2⟩ F rfl X'
  exact ⟨t', step t' q1, q2⟩
end Steps

/-! branches and the heap -/
theorem drawn_in : Cond.fieldLink (cnm 5) 245 "TypedBlocks" "DRAWN" "[I" ∈ gtbl := wAt_in (ps := [859]) (ws := [Cond.fieldLink (cnm 5) 245 "TypedBlocks" "DRAWN" "[I"]) (by decide +kernel) (by decide +kernel) List.mem_cons_self
section Steps
variable {G : mG} {l : Launch} {mi pc : Nat} {ls ls' : mL} {st : List mV} {h : mH}
theorem tgt_of {off : Int} {t : Nat} (ht : tgt pc off = some t) : (pc : Int) + off = (t : Int) := by
  unfold tgt at ht
  split at ht
  · have := Option.some.inj ht
    omega
  · cases ht
theorem s_goto {off : Int} {t : Nat} (d : decode (codeOf mi) pc = .ok (.goto off, 3)) (ht : tgt pc off = some t) : St1 G l mi pc ls st h t ls st := by
  intro p e R s m args below meth c C H locs cells slots Q L S hR hS hL hT kk
  exact lv_goto C.1 C.2.1 d (tgt_of ht) (kk L _ hL hT)
theorem s_if {cd : Jvm.ClassFile.Cond} {off : Int} {x : Int} {t : Nat} {r : List mV} (d : decode (codeOf mi) pc = .ok (.ifCond cd off, 3)) (ht : tgt pc off = some t) : St1 G l mi pc ls (.inl x :: r) h (if cnd cd x 0 = true then t else pc + 3) ls r := by
  intro p e R s m args below meth c C H locs cells slots Q L S hR hS hL hT kk
  obtain ⟨w, S1, rfl, ⟨a, rfl, ha⟩, hT1⟩ := RL_cons hT
  have z : (0 : Int32).toInt = 0 := rfl
  have k := kk L S1 hL hT1
  have yes : cnd cd x 0 = true → W p l e R s m args below meth c H locs cells slots Q (F0 m t L S1) := fun c => by rw [if_pos c] at k; exact k
  have no : ¬ cnd cd x 0 = true → W p l e R s m args below meth c H locs cells slots Q (F0 m (pc + 3) L S1) := fun c => by rw [if_neg c] at k; exact k
  clear k kk
  subst ha
  cases cd <;> simp only [cnd, decide_eq_true_eq] at yes no
  · exact lv_if_eq C.1 C.2.1 d (tgt_of ht) (fun q => yes (by rw [q]; rfl)) (fun q => no (fun q2 => q (by rw [i32_eq, z]; exact q2)))
  · exact lv_if_ne C.1 C.2.1 d (tgt_of ht) (fun q => yes (fun q2 => q (by rw [i32_eq, z]; exact q2))) (fun q => no (fun q2 => q2 (by rw [q]; rfl)))
  · exact lv_if_lt C.1 C.2.1 d (tgt_of ht) (fun q => yes (by rw [Int32.lt_iff_toInt_lt, z] at q; exact q)) (fun q => no (by rw [Int32.lt_iff_toInt_lt, z] at q; exact q))
  · exact lv_if_ge C.1 C.2.1 d (tgt_of ht) (fun q => yes (by rw [Int32.le_iff_toInt_le, z] at q; exact q)) (fun q => no (by rw [Int32.le_iff_toInt_le, z] at q; exact q))
  · exact lv_if_gt C.1 C.2.1 d (tgt_of ht) (fun q => yes (by rw [Int32.lt_iff_toInt_lt, z] at q; exact q)) (fun q => no (by rw [Int32.lt_iff_toInt_lt, z] at q; exact q))
  · exact lv_if_le C.1 C.2.1 d (tgt_of ht) (fun q => yes (by rw [Int32.le_iff_toInt_le, z] at q; exact q)) (fun q => no (by rw [Int32.le_iff_toInt_le, z] at q; exact q))
theorem s_icmp {cd : Jvm.ClassFile.Cond} {off : Int} {x y : Int} {t : Nat} {r : List mV} (d : decode (codeOf mi) pc = .ok (.if_icmp cd off, 3)) (ht : tgt pc off = some t) : St1 G l mi pc ls (.inl y :: .inl x :: r) h (if cnd cd x y = true then t else pc + 3) ls r := by
  intro p e R s m args below meth c C H locs cells slots Q L S hR hS hL hT kk
  obtain ⟨w, S1, rfl, ⟨b, rfl, hb⟩, hT1⟩ := RL_cons hT
  obtain ⟨w, S2, rfl, ⟨a, rfl, ha⟩, hT2⟩ := RL_cons hT1
  have k := kk L S2 hL hT2
  have yes : cnd cd x y = true → W p l e R s m args below meth c H locs cells slots Q (F0 m t L S2) := fun c => by rw [if_pos c] at k; exact k
  have no : ¬ cnd cd x y = true → W p l e R s m args below meth c H locs cells slots Q (F0 m (pc + 3) L S2) := fun c => by rw [if_neg c] at k; exact k
  clear k kk
  subst ha
  subst hb
  cases cd <;> simp only [cnd, decide_eq_true_eq] at yes no
  · exact lv_icmp_eq C.1 C.2.1 d (tgt_of ht) (fun q => yes (by rw [q])) (fun q => no (fun q2 => q (by rw [i32_eq]; exact q2)))
  · exact lv_icmp_ne C.1 C.2.1 d (tgt_of ht) (fun q => yes (fun q2 => q (by rw [i32_eq]; exact q2))) (fun q => no (fun q2 => q2 (by rw [q])))
  · exact lv_icmp_lt C.1 C.2.1 d (tgt_of ht) (fun q => yes (by rw [Int32.lt_iff_toInt_lt] at q; exact q)) (fun q => no (by rw [Int32.lt_iff_toInt_lt] at q; exact q))
  · exact lv_icmp_ge C.1 C.2.1 d (tgt_of ht) (fun q => yes (by rw [Int32.le_iff_toInt_le] at q; exact q)) (fun q => no (by rw [Int32.le_iff_toInt_le] at q; exact q))
  · exact lv_icmp_gt C.1 C.2.1 d (tgt_of ht) (fun q => yes (by rw [Int32.lt_iff_toInt_lt] at q; exact q)) (fun q => no (by rw [Int32.lt_iff_toInt_lt] at q; exact q))
  · exact lv_icmp_le C.1 C.2.1 d (tgt_of ht) (fun q => yes (by rw [Int32.le_iff_toInt_le] at q; exact q)) (fun q => no (by rw [Int32.le_iff_toInt_le] at q; exact q))
theorem s_ifnull {off : Int} {a t : Nat} {r : List mV} (d : decode (codeOf mi) pc = .ok (.ifnull off, 3)) (ht : tgt pc off = some t) : St1 G l mi pc ls (.inr (.inr a) :: r) h (if decide (a = 0) = true then t else pc + 3) ls r := by
  intro p e R s m args below meth c C H locs cells slots Q L S hR hS hL hT kk
  obtain ⟨w, S1, rfl, hw, hT1⟩ := RL_cons hT
  have k := kk L S1 hL hT1
  by_cases h0 : a = 0
  · have e : w = .null := by rw [RV_ref hw, if_pos h0]
    subst e
    rw [if_pos (by simp [h0])] at k
    exact lv_ifnullN C.1 C.2.1 d (tgt_of ht) k
  · have e := RV_ref1 hw h0
    subst e
    rw [if_neg (by simp [h0])] at k
    exact lv_ifnull C.1 C.2.1 d k
theorem s_ifnonnull {off : Int} {a t : Nat} {r : List mV} (d : decode (codeOf mi) pc = .ok (.ifnonnull off, 3)) (ht : tgt pc off = some t) : St1 G l mi pc ls (.inr (.inr a) :: r) h (if decide (a ≠ 0) = true then t else pc + 3) ls r := by
  intro p e R s m args below meth c C H locs cells slots Q L S hR hS hL hT kk
  obtain ⟨w, S1, rfl, hw, hT1⟩ := RL_cons hT
  have k := kk L S1 hL hT1
  by_cases h0 : a = 0
  · have e : w = .null := by rw [RV_ref hw, if_pos h0]
    subst e
    rw [if_neg (by simp [h0])] at k
    exact lv_ifnonnullN C.1 C.2.1 d k
  · have e := RV_ref1 hw h0
    subst e
    rw [if_pos (by simp [h0])] at k
    exact lv_ifnonnull C.1 C.2.1 d (tgt_of ht) k
theorem s_tab {dd lo hi : Int} {offs : Array Int} {len : Nat} {x : Int} {t : Nat} {r : List mV} (d : decode (codeOf mi) pc = .ok (.tableswitch dd lo hi offs, len))
    (ht : (if x < lo ∨ hi < x then tgt pc dd else (offs[(x - lo).toNat]?).bind (fun o => tgt pc o)) = some t) : St1 G l mi pc ls (.inl x :: r) h t ls r := by
  intro p e R s m args below meth c C H locs cells slots Q L S hR hS hL hT kk
  obtain ⟨w, S1, rfl, ⟨a, rfl, ha⟩, hT1⟩ := RL_cons hT
  subst ha
  split at ht
  · rename_i h1
    exact lv_tableOut C.1 C.2.1 d h1 (tgt_of ht) (kk L S1 hL hT1)
  · rename_i h1
    obtain ⟨o, ho, ht⟩ := Option.bind_eq_some_iff.mp ht
    exact lv_tableIn C.1 C.2.1 d (fun q => h1 (Or.inl q)) (fun q => h1 (Or.inr q)) ho (tgt_of ht) (kk L S1 hL hT1)
theorem s_look {dd : Int} {ps : Array (Int × Int)} {len : Nat} {x : Int} {t : Nat} {r : List mV} (d : decode (codeOf mi) pc = .ok (.lookupswitch dd ps, len)) (hp : (ps.toList.zip (ps.toList.drop 1)).all (fun (a, next) => a.1 < next.1) = true)
    (ht : tgt pc (Op.lookupswitch.offset ps.toList dd x) = some t) : St1 G l mi pc ls (.inl x :: r) h t ls r := by
  intro p e R s m args below meth c C H locs cells slots Q L S hR hS hL hT kk
  obtain ⟨w, S1, rfl, ⟨a, rfl, ha⟩, hT1⟩ := RL_cons hT
  subst ha
  exact lv_lookup C.1 C.2.1 d hp rfl (tgt_of ht) (kk L S1 hL hT1)
/-! reading the heap -/
theorem cl_at {ci : Nat} (h : ci < 7) : vwCl[ci]? = some (cnm ci, TXs ci, nfld ci) := by
  match ci, h with
  | 0, _ => rfl
  | 1, _ => rfl
  | 2, _ => rfl
  | 3, _ => rfl
  | 4, _ => rfl
  | 5, _ => rfl
  | 6, _ => rfl
theorem gfd_of {ci k a : Nat} {x : Int} (e : gfd ci k h a = some x) : ∃ n, h.1[a]? = some (ci, n) ∧ k < n ∧ a ≠ 0 ∧ h.2 a k = x := by
  unfold gfd at e
  split at e
  · rename_i q hq
    split at e
    · rename_i hc
      obtain ⟨c1, c2, c3⟩ := hc
      refine ⟨q.2, by rw [hq, ← c1], c2, c3, Option.some.inj e⟩
    · cases e
  · cases e
theorem s_getf {k ci j ty a : Nat} {x : Int} {r : List mV} (d : decode (codeOf mi) pc = .ok (.getfield k, 3)) (hk : fldOf (mown mi) k = some (ci, j, ty)) (hx : gfd ci j h a = some x) :
    St1 G l mi pc ls (.inr (.inr a) :: r) h (pc + 3) ls ((if ty = 2 then .inr (.inr x.toNat) else .inl x) :: r) := by
  intro p e R s m args below meth c C H locs cells slots Q L S hR hS hL hT kk
  obtain ⟨n, h1, h2, h3, rfl⟩ := gfd_of hx
  obtain ⟨f1, f2, f3, f4, f5⟩ := fld_in hk
  obtain ⟨w, S1, rfl, hw, hT1⟩ := RL_cons hT
  have ew := RV_ref1 hw h3
  subst ew
  obtain ⟨cell, hcell, hrc⟩ := hR.2.2.2 a _ (by omega) h1
  rcases hrc with ⟨_, hn, hcls, hvm, hsl⟩ | ⟨q, _⟩ | q
  · obtain ⟨v, hv1, hv2⟩ := hsl j h2
    obtain ⟨hS2, hfc, kC, hkC, hkind⟩ := C.2.2.2.2.2.2.2.2.2.1.1 ci _ (cl_at f2)
    obtain ⟨cf, kf, fi, f, hi, hslot⟩ := hS2 j f3
    have hts := C.2.2.2.2.1
    have hst := (u_facts hfc hkC (u_lays hts (lay_in f2) f3) hi).1
    simp only [f5] at hi
    refine W.getf C.1 C.2.1 C.2.2.2.1 (hts _ f1) hi hst hcell (by rw [hvm]; exact fun h => by cases h) (v := v) (by rw [hslot]; exact hv1) rfl rfl d (kk L _ hL ⟨?_, hT1⟩)
    have et : ty = tyf ci j := f4
    unfold RS at hv2
    rw [← et] at hv2
    split at hv2
    · rename_i h7; rw [if_pos h7]; exact hv2.2
    · rename_i h7; rw [if_neg h7]; exact hv2
  · omega
  · omega
theorem ald_of {kd a : Nat} {j x : Int} (e : ald kd h a j = some x) : ∃ n, h.1[a]? = some (kd, n) ∧ 0 ≤ j ∧ j < (n : Int) ∧ a ≠ 0 ∧ h.2 a j.toNat = x := by
  unfold ald at e
  split at e
  · rename_i q hq
    split at e
    · rename_i hc
      obtain ⟨c1, c2, c3, c4⟩ := hc
      exact ⟨q.2, by rw [hq, ← c1], c2, c3, c4, Option.some.inj e⟩
    · cases e
  · cases e
theorem bld_of {a : Nat} {j x : Int} (e : bld h a j = some x) : ∃ kd n, h.1[a]? = some (kd, n) ∧ (kd = 11 ∨ kd = 12) ∧ 0 ≤ j ∧ j < (n : Int) ∧ a ≠ 0 ∧ h.2 a j.toNat = x := by
  unfold bld at e
  split at e
  · rename_i q hq
    split at e
    · rename_i hc
      obtain ⟨c1, c2, c3, c4⟩ := hc
      exact ⟨q.1, q.2, hq, c1, c2, c3, c4, Option.some.inj e⟩
    · cases e
  · cases e
theorem arr_of {s : State} {H : Heap} {a kd n : Nat} (hR : Rep G s h H) (h1 : h.1[a]? = some (kd, n)) (h0 : a ≠ 0) (hk : 10 ≤ kd) (hk2 : kd ≤ 13) :
    ∃ cell, H[rho G a]? = some cell ∧ s.isArrayOf cell (tyA kd) ∧ cell.vm ≠ .unknown ∧ cell.slots.size = n ∧ n < 1000000 ∧ ∀ j, j < n → ∃ w, cell.slots[j]? = some w ∧ RS G (if kd = 13 then 2 else 0) (h.2 a j) w := by
  obtain ⟨cell, hcell, hrc⟩ := hR.2.2.2 a _ (by omega) h1
  rcases hrc with ⟨q, _⟩ | ⟨_, _, q3, q4, q5, q6, q7⟩ | q
  · omega
  · exact ⟨cell, hcell, q4, q5, q6, q3, q7⟩
  · omega
theorem inb {a : Int32} {n : Nat} (h1 : 0 ≤ a.toInt) (h2 : a.toInt < (n : Int)) : ¬ (a < 0 ∨ n ≤ a.toNatClampNeg) := by
  intro q
  rcases q with q | q
  · rw [Int32.lt_iff_toInt_lt] at q
    have z : (0 : Int32).toInt = 0 := rfl
    omega
  · rw [i32_cl] at q
    omega
theorem s_iald {a : Nat} {j x : Int} {r : List mV} (d : decode (codeOf mi) pc = .ok (.iaload, 1)) (hx : ald 10 h a j = some x) : St1 G l mi pc ls (.inl j :: .inr (.inr a) :: r) h (pc + 1) ls (.inl x :: r) := by
  intro p e R s m args below meth c C H locs cells slots Q L S hR hS hL hT kk
  obtain ⟨n, h1, h2, h3, h4, rfl⟩ := ald_of hx
  obtain ⟨w, S1, rfl, ⟨b, rfl, rfl⟩, hT1⟩ := RL_cons hT
  obtain ⟨w, S2, rfl, hw, hT2⟩ := RL_cons hT1
  have ew := RV_ref1 hw h4
  subst ew
  obtain ⟨cell, c1, c2, c3, c4, c5, c6⟩ := arr_of hR h1 h4 (by omega) (by omega)
  obtain ⟨v, v1, v2⟩ := c6 b.toInt.toNat (by omega)
  exact W.iald C.1 C.2.1 c1 c2 c3 (by rw [c4]; exact inb h2 h3) (v := v) (by rw [i32_cl]; exact v1) rfl rfl d (kk L _ hL ⟨v2, hT2⟩)
theorem s_bald {a : Nat} {j x : Int} {r : List mV} (d : decode (codeOf mi) pc = .ok (.baload, 1)) (hx : bld h a j = some x) : St1 G l mi pc ls (.inl j :: .inr (.inr a) :: r) h (pc + 1) ls (.inl x :: r) := by
  intro p e R s m args below meth c C H locs cells slots Q L S hR hS hL hT kk
  obtain ⟨kd, n, h1, hkd, h2, h3, h4, rfl⟩ := bld_of hx
  obtain ⟨w, S1, rfl, ⟨b, rfl, rfl⟩, hT1⟩ := RL_cons hT
  obtain ⟨w, S2, rfl, hw, hT2⟩ := RL_cons hT1
  have ew := RV_ref1 hw h4
  subst ew
  obtain ⟨cell, c1, c2, c3, c4, c5, c6⟩ := arr_of hR h1 h4 (by omega) (by omega)
  obtain ⟨v, v1, v2⟩ := c6 b.toInt.toNat (by omega)
  rcases hkd with rfl | rfl
  · exact W.bald C.1 C.2.1 c1 c2 c3 (by rw [c4]; exact inb h2 h3) (v := v) (by rw [i32_cl]; exact v1) rfl rfl d (kk L _ hL ⟨v2, hT2⟩)
  · exact W.zald C.1 C.2.1 c1 c2 c3 (by rw [c4]; exact inb h2 h3) (v := v) (by rw [i32_cl]; exact v1) rfl rfl d (kk L _ hL ⟨v2, hT2⟩)
theorem s_aald {a : Nat} {j x : Int} {r : List mV} (d : decode (codeOf mi) pc = .ok (.aaload, 1)) (hx : ald 13 h a j = some x) : St1 G l mi pc ls (.inl j :: .inr (.inr a) :: r) h (pc + 1) ls (.inr (.inr x.toNat) :: r) := by
  intro p e R s m args below meth c C H locs cells slots Q L S hR hS hL hT kk
  obtain ⟨n, h1, h2, h3, h4, rfl⟩ := ald_of hx
  obtain ⟨w, S1, rfl, ⟨b, rfl, rfl⟩, hT1⟩ := RL_cons hT
  obtain ⟨w, S2, rfl, hw, hT2⟩ := RL_cons hT1
  have ew := RV_ref1 hw h4
  subst ew
  obtain ⟨cell, c1, c2, c3, c4, c5, c6⟩ := arr_of hR h1 h4 (by omega) (by omega)
  obtain ⟨v, v1, v2⟩ := c6 b.toInt.toNat (by omega)
  exact W.aald C.1 C.2.1 c1 c2 rfl c3 (by rw [c4]; exact inb h2 h3) (v := v) (by rw [i32_cl]; exact v1) rfl rfl d (kk L _ hL ⟨v2.2, hT2⟩)
theorem aln_of {a : Nat} {x : Int} (e : aln h a = some x) : ∃ kd n, h.1[a]? = some (kd, n) ∧ 10 ≤ kd ∧ kd ≤ 13 ∧ n < 1000000 ∧ a ≠ 0 ∧ x = (n : Int) := by
  unfold aln at e
  split at e
  · rename_i q hq
    split at e
    · rename_i hc
      obtain ⟨c1, c2, c3, c4⟩ := hc
      exact ⟨q.1, q.2, hq, c1, c2, c3, c4, (Option.some.inj e).symm⟩
    · cases e
  · cases e
theorem s_alen {a : Nat} {x : Int} {r : List mV} (d : decode (codeOf mi) pc = .ok (.arraylength, 1)) (hx : aln h a = some x) : St1 G l mi pc ls (.inr (.inr a) :: r) h (pc + 1) ls (.inl x :: r) := by
  intro p e R s m args below meth c C H locs cells slots Q L S hR hS hL hT kk
  obtain ⟨kd, n, h1, h2, h3, h4, h5, rfl⟩ := aln_of hx
  obtain ⟨w, S1, rfl, hw, hT1⟩ := RL_cons hT
  have ew := RV_ref1 hw h5
  subst ew
  obtain ⟨cell, c1, c2, c3, c4, c5, c6⟩ := arr_of hR h1 h5 h2 h3
  refine W.alen (n := Int32.ofNat n) C.1 C.2.1 c1 c2 (by rw [c4]) rfl rfl d (kk L _ hL ⟨⟨_, rfl, ?_⟩, hT1⟩)
  have := i32_of (n := (n : Int)) (by omega) (by omega)
  exact this
theorem s_gets {k a : Nat} (d : decode (codeOf mi) pc = .ok (.getstatic k, 3)) (hk : staOf (mown mi) k = some a) : St1 G l mi pc ls st h (pc + 3) ls (.inr (.inr a) :: st) := by
  intro p e R s m args below meth c C H locs cells slots Q L S hR hS hL hT kk
  have h1 := lkp_mem hk
  have hc := getD_lt h1
  have hall : ∀ c, c < 9 → ∀ e ∈ lsta.getD c [], (c = 2 ∧ e = (72, 2)) ∨ (c = 5 ∧ e = (245, 3)) := by decide +kernel
  obtain ⟨n1, n2, n3, n4, -⟩ := C.2.2.2.2.2.2.2.2.2.2.1
  have ho : s.vm.findClass (cnm (mown mi)) = some m.cls := C.2.2.2.1
  rcases hall _ hc _ h1 with ⟨e1, e2⟩ | ⟨e1, e2⟩
  · cases e2
    rw [e1] at ho
    exact va_getsN C.1 C.2.1 n3 hS ho (n2.use rfl) (fun _ q => q) d (kk L _ hL ⟨rfl, hT⟩)
  · cases e2
    rw [e1] at ho
    have hl : Cond.fieldLink (cnm 5) 245 "TypedBlocks" "DRAWN" "[I" ∈ gtbl := drawn_in
    exact va_gets C.1 C.2.1 n4 hS ho (C.2.2.2.2.1 _ hl) (fun _ q => q) d (kk L _ hL ⟨rfl, hT⟩)
end Steps

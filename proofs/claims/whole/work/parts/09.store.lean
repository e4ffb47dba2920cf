/-! writing the heap -/
theorem rho_inj {G : mG} {a k : Nat} (ha : 6 ≤ a) (hk : 1 ≤ k) (hb : ∀ k, 1 ≤ k → k < 6 → G.2.1 k < G.1) (hne : k ≠ a) : rho G k ≠ rho G a := by
  unfold rho
  rw [if_neg (by omega : ¬ a < 6)]
  split
  · rename_i h6
    have := hb k hk h6
    omega
  · omega
theorem rho_AA {G : mG} {a : Nat} (ha : 6 ≤ a) : AA G (rho G a) := by
  unfold rho AA
  rw [if_neg (by omega : ¬ a < 6)]
  omega
theorem mw_1 (h : mH) (a j : Nat) (v : Int) : (mw h a j v).1 = h.1 := rfl
theorem mw_ne (h : mH) {a k : Nat} (j : Nat) (v : Int) (hne : k ≠ a) : (mw h a j v).2 k = h.2 k := by
  funext i
  simp [mw, hne]
theorem mw_at (h : mH) (a j i : Nat) (v : Int) : (mw h a j v).2 a i = if i = j then v else h.2 a i := by
  simp [mw]
/-- one cell of the heap changes -/
theorem Rep_set {G : mG} {s : State} {h h1 : mH} {H H1 : Heap} {a kd n : Nat} {cell : Cell} (hR : Rep G s h H) (ha : 6 ≤ a) (e1 : h1.1 = h.1) (e2 : ∀ k, k ≠ a → h1.2 k = h.2 k) (hq : h.1[a]? = some (kd, n)) (hz : H1.size = H.size) (ho : ∀ q, q ≠ rho G a → H1[q]? = H[q]?) (hc : H1[rho G a]? = some cell) (hrc : RC G s kd n (h1.2 a) cell) : Rep G s h1 H1 := by
  obtain ⟨r1, r2, r3, r4⟩ := hR
  refine ⟨by rw [hz, e1]; exact r1, by rw [e1]; exact r2, r3, fun k q hk hkq => ?_⟩
  rw [e1] at hkq
  by_cases hka : k = a
  · subst hka
    cases hq.symm.trans hkq
    exact ⟨cell, hc, hrc⟩
  · obtain ⟨cl, h5, h6⟩ := r4 k q hk hkq
    exact ⟨cl, by rw [ho _ (rho_inj ha hk r3 hka)]; exact h5, by rw [e2 k hka]; exact h6⟩
theorem set_slot {cell : Cell} {j i : Nat} {v : Value} (hj : j < cell.slots.size) : (cell.setSlot j v).slots[i]? = if i = j then some v else cell.slots[i]? := by
  simp only [Cell.setSlot]
  by_cases e : i = j
  · subst e
    simp [hj]
  · rw [if_neg e, Array.getElem?_setIfInBounds_ne (Ne.symm e)]
section Steps
variable {G : mG} {l : Launch} {mi pc : Nat} {ls ls' : mL} {st : List mV} {h : mH}
/-- a step that changes the memory, but makes nothing -/
def St2 (G : mG) (l : Launch) (mi pc : Nat) (ls : mL) (st : List mV) (h : mH) (pc' : Nat) (ls' : mL) (st' : List mV) (h1 : mH) : Prop :=
  h1.1 = h.1 ∧ ∀ (p : Program) (e : Env) (R : Room) (s : State) (m : MethodId) (args : Array Value) (below : List Frame) (meth : Method) (c : Code), CX G mi p R s m args meth c →
  ∀ (H : Heap) (locs : List Loc) (cells slots : Nat) (Q : State → Prop) (L : Array Slot) (S : List Value), Rep G s h H → va_S (AA G) s.heap H locs → LR G (mmax mi) ls L → RL G st S →
  (∀ (H' : Heap) (locs' : List Loc) (L' : Array Slot) (S' : List Value), Rep G s h1 H' → va_S (AA G) s.heap H' locs' → LR G (mmax mi) ls' L' → RL G st' S' → W p l e R s m args below meth c H' locs' cells slots Q (F0 m pc' L' S')) →
  W p l e R s m args below meth c H locs cells slots Q (F0 m pc L S)
theorem msz_eq {h h1 : mH} (e : h1.1 = h.1) : msz h1 = msz h := by unfold msz; rw [e]
theorem St2.nx {pc' : Nat} {st' : List mV} {h1 : mH} (H1 : St2 G l mi pc ls st h pc' ls' st' h1) : Nx G l mi pc ls st h pc' ls' st' h1 := by
  obtain ⟨e1, H1⟩ := H1
  refine ⟨by rw [e1]; exact List.prefix_refl _, fun v h' hp hs => ?_⟩
  intro p e R s m args below meth c C H locs cells slots Q L S hR hS hL hT hc hsl ret
  refine H1 p e R s m args below meth c C H locs cells slots Q L S hR hS hL hT (fun H' locs' L' S' hR' hS' hL' hT' => hs p e R s m args below meth c C H' locs' cells slots Q L' S' hR' hS' hL' hT' (by rw [e1]; exact hc) (by rw [msz_eq e1]; exact hsl) (fun a1 a2 a3 a4 a5 a6 a7 a8 a9 => ?_))
  rw [e1, msz_eq e1]
  exact ret a1 a2 a3 a4 a5 a6 a7 a8 a9
theorem pfd_of {ci k a : Nat} {v : Int} {h1 : mH} (e : pfd ci k h a v = some h1) : ∃ n, h.1[a]? = some (ci, n) ∧ k < n ∧ 6 ≤ a ∧ h1 = mw h a k v := by
  unfold pfd at e
  split at e
  · rename_i q hq
    split at e
    · rename_i hc
      obtain ⟨c1, c2, c3⟩ := hc
      exact ⟨q.2, by rw [hq, ← c1], c2, c3, (Option.some.inj e).symm⟩
    · cases e
  · cases e
theorem ty_in {ci j : Nat} (h1 : ci < 7) (h2 : j < nfld ci) : parseFieldDescriptor (TXs ci j).2.2.1 = some (tyD ci j) ∧ (if tyf ci j = 2 then (tyD ci j).isReference = true else if tyf ci j = 1 then tyD ci j = .boolean else tyD ci j = .int) := by
  have h3 := List.all_eq_true.mp (List.all_eq_true.mp ty_chk ci (List.mem_range.mpr h1)) j (List.mem_range.mpr h2)
  simp only [Bool.and_eq_true, decide_eq_true_eq] at h3
  refine ⟨h3.1, ?_⟩
  have h4 := h3.2
  split at h4
  · rename_i e; rw [if_pos e]; exact h4
  · rename_i e
    rw [if_neg e]
    split at h4
    · rename_i e2; rw [if_pos e2]; exact of_decide_eq_true h4
    · rename_i e2; rw [if_neg e2]; exact of_decide_eq_true h4
/-- a value of a field's type fits -/
theorem fit_in {ty : FieldType} {tc : Nat} {x : Int} {w : Value} (hty : if tc = 2 then ty.isReference = true else if tc = 1 then ty = .boolean else ty = .int) (hw : RS G tc x w) (hb : tc = 1 → x = 0 ∨ x = 1) : narrow ty w = w ∧ fits ty w = true := by
  unfold RS at hw
  split at hty
  · rename_i e
    rw [if_pos e] at hw
    have h2 := RV_ref hw.2
    have : w = .null ∨ ∃ a, w = .ref a := by
      rw [h2]
      split
      · exact Or.inl rfl
      · exact Or.inr ⟨_, rfl⟩
    cases ty <;> simp [FieldType.isReference] at hty <;> rcases this with e | ⟨a, e⟩ <;> subst e <;> exact ⟨rfl, rfl⟩
  · rename_i e
    rw [if_neg e] at hw
    obtain ⟨a, rfl, ha⟩ := RV_int hw
    split at hty
    · rename_i e2
      subst hty
      rcases hb e2 with z | z
      · have : a = 0 := by rw [i32_eq, ha, z]; rfl
        subst this
        exact ⟨by decide, by decide⟩
      · have : a = 1 := by rw [i32_eq, ha, z]; rfl
        subst this
        exact ⟨by decide, by decide⟩
    · subst hty
      exact ⟨rfl, rfl⟩
theorem nam_in {ci i j : Nat} (h1 : ci < 7) (hi : i < nfld ci) (hj : j < nfld ci) (hne : i ≠ j) : (TXs ci i).2.1 ≠ (TXs ci j).2.1 := by
  have h3 := List.all_eq_true.mp (List.all_eq_true.mp (List.all_eq_true.mp nam_chk ci (List.mem_range.mpr h1)) j (List.mem_range.mpr hj)) i (List.mem_range.mpr hi)
  simp only [Bool.or_eq_true, decide_eq_true_eq] at h3
  exact h3.resolve_left hne
/-- final fields are set in constructors of their own class alone -/
def finOk (mi ci j : Nat) : Prop := (TXs ci j).2.2.2 = false ∨ ((TXs ci j).2.2.2 = true ∧ (mname mi).name = "<init>" ∧ mown mi = ci)
theorem fin_chk : (List.range 7).all (fun c => (List.range (nfld c)).all (fun j => decide ((TXs c j).2.2.2 = (ffin.getD c []).getD j false))) = true := by decide +kernel
theorem ini_chk : minit.all (fun m => decide ((mname m).name = "<init>")) = true := by decide +kernel
theorem fin_in {ci j : Nat} (h1 : ci < 7) (h2 : j < nfld ci) (hf : finB mi ci j = true) : finOk mi ci j := by
  have h3 := List.all_eq_true.mp (List.all_eq_true.mp fin_chk ci (List.mem_range.mpr h1)) j (List.mem_range.mpr h2)
  simp only [decide_eq_true_eq] at h3
  unfold finB at hf
  unfold finOk
  rw [h3]
  cases hb : (ffin.getD ci []).getD j false with
  | false => exact Or.inl rfl
  | true =>
    rw [hb] at hf
    simp only [Bool.not_true, Bool.false_or, Bool.and_eq_true, List.contains_iff_mem, decide_eq_true_eq] at hf
    have h4 := List.all_eq_true.mp ini_chk mi hf.1
    simp only [decide_eq_true_eq] at h4
    exact Or.inr ⟨rfl, h4, hf.2⟩
theorem s_putf {k ci j ty a : Nat} {x : Int} {v : mV} {r : List mV} {h1 : mH} (d : decode (codeOf mi) pc = .ok (.putfield k, 3)) (hk : fldOf (mown mi) k = some (ci, j, ty)) (hx : pfd ci j h a x = some h1)
    (hv : ∀ w, RV G v w → RS G ty x w) (hb : ty = 1 → x = 0 ∨ x = 1) (hfb : finB mi ci j = true) : St2 G l mi pc ls (v :: .inr (.inr a) :: r) h (pc + 3) ls r h1 := by
  obtain ⟨n, q1, q2, q3, rfl⟩ := pfd_of hx
  refine ⟨rfl, ?_⟩
  intro p e R s m args below meth c C H locs cells slots Q L S hR hS hL hT kk
  obtain ⟨f1, f2, f3, f4, f5⟩ := fld_in hk
  obtain ⟨w, S1, rfl, hw, hT1⟩ := RL_cons hT
  obtain ⟨w2, S2, rfl, hw2, hT2⟩ := RL_cons hT1
  have hfin := fin_in f2 f3 hfb
  have ew := RV_ref1 hw2 (by omega)
  subst ew
  obtain ⟨cell, hcell, hrc⟩ := hR.2.2.2 a _ (by omega) q1
  rcases hrc with ⟨hci, hn, hcls, hvm, hsl⟩ | ⟨q, _⟩ | q
  · have hn' : n = nfld ci := hn
    subst hn'
    obtain ⟨hS2, hfc, kC, hkC, hkind⟩ := C.2.2.2.2.2.2.2.2.2.1.1 ci _ (cl_at f2)
    obtain ⟨cf, kf, fi, f, hi, hslot⟩ := hS2 j f3
    have hts := C.2.2.2.2.1
    have hty : ty = tyf ci j := f4
    obtain ⟨t1, t2⟩ := ty_in f2 f3
    have hrs := hv w hw
    obtain ⟨n1, n2⟩ := fit_in (ty := tyD ci j) (by rw [hty]; exact t2) hrs hb
    have hst := (u_facts hfc hkC (u_lays hts (lay_in f2) f3) hi).1
    have hap : ∀ i, i < nfld ci → i ≠ j → G.2.2.2 ci i ≠ G.2.2.2 ci j := by
      intro i hi' hne
      obtain ⟨cf', kf', fi', fd', hi2, hsl2⟩ := hS2 i hi'
      rw [← hslot, ← hsl2]
      have nm1 := (State.fieldFound?_type hi t1).1
      have nm2 := (State.fieldFound?_type hi2 (ty_in f2 hi').1).1
      exact u_apart (u_lays hts (lay_in f2) hi') (u_lays hts (lay_in f2) f3) hi2 hi (by rw [nm1, nm2]; exact nam_in f2 hi' f3 hne)
    have hlt : f.slot < cell.slots.size := by
      obtain ⟨w0, hw0, -⟩ := hsl j q2
      rw [hslot]
      exact (Array.getElem?_eq_some_iff.mp hw0).1
    have done : ∀ H' : Heap, H'[rho G a]? = some (cell.setSlot f.slot w) → H'.size = H.size → (∀ q, q ≠ rho G a → H'[q]? = H[q]?) → W p l e R s m args below meth c H' (locs ++ [⟨rho G a, f.slot⟩]) cells slots Q (F0 m (pc + 3) L S2) := by
      intro H' e1 e2 e3
      refine kk H' _ L S2 (Rep_set hR q3 rfl (fun k hk => mw_ne h j x hk) q1 e2 e3 e1 (Or.inl ⟨hci, rfl, hcls, hvm, fun i hi' => ?_⟩)) (hS.put e2 e3 (rho_AA q3)) hL hT2
      rw [mw_at, hslot, set_slot (by rw [← hslot]; exact hlt)]
      by_cases hij : i = j
      · subst hij
        rw [if_pos rfl, if_pos rfl]
        exact ⟨w, rfl, by have := hrs; rw [hty] at this; exact this⟩
      · rw [if_neg hij, if_neg (hap i hi' hij)]
        exact hsl i hi'
    rw [f5] at hi
    rcases hfin with hf | ⟨hf, hi0, hown⟩
    · have hlay := hts _ (lay_in f2 _ (u_in_lay f3))
      unfold u_lay at hlay
      rw [if_neg (by rw [hf]; decide)] at hlay
      have h6 := u_store hfc hkC hkind hlay (by rw [f5]; exact hi) t1 n1 n2
      exact W.putK C.1 C.2.1 (f := f) ⟨C.2.2.2.1, hts _ f1, ⟨cf, kf, fi, hi⟩, hst⟩ (by rw [hcls]; exact h6) hcell hvm hlt rfl rfl d done
    · have hlay := hts _ (lay_in f2 _ (u_in_lay f3))
      unfold u_lay at hlay
      rw [if_pos hf] at hlay
      have hcf : m.cls = cf := by
        obtain ⟨_, _, c', _, _, _, -, -, hf', -, -, -, hown2, -⟩ := Cond.laysFinal_spec hlay
        rw [f5] at hf' hown2
        have e1 : c' = cf := by have := hi.symm.trans hf'; simp at this; exact this.1.symm
        have ho := C.2.2.2.1
        rw [hown] at ho
        rw [← e1]; exact Option.some.inj (ho.symm.trans hown2)
      have h6 := u_fits hfc hkC hkind (Or.inr hlay) (by rw [f5]; exact hi) t1 n1 n2
      exact W.putFinK C.1 C.2.1 C.2.2.2.1 (hts _ f1) hi hst hcf (C.2.2.2.2.2.2.1 hi0) (by rw [hcls]; exact h6) hcell hvm hlt rfl rfl d done
  · omega
  · omega
theorem ast_of {a : Nat} {j v : Int} {h1 : mH} (e : ast h a j v = some h1) : ∃ n, h.1[a]? = some (10, n) ∧ 0 ≤ j ∧ j < (n : Int) ∧ 6 ≤ a ∧ h1 = mw h a j.toNat v := by
  unfold ast at e
  split at e
  · rename_i q hq
    split at e
    · rename_i hc
      obtain ⟨c1, c2, c3, c4⟩ := hc
      exact ⟨q.2, by rw [hq, ← c1], c2, c3, c4, (Option.some.inj e).symm⟩
    · cases e
  · cases e
theorem bst_of {a : Nat} {j v : Int} {h1 : mH} (e : bst h a j v = some h1) : ∃ kd n, h.1[a]? = some (kd, n) ∧ (kd = 11 ∨ kd = 12) ∧ 0 ≤ j ∧ j < (n : Int) ∧ 6 ≤ a ∧ h1 = mw h a j.toNat (if kd = 11 then w8 v else iand v 1) := by
  unfold bst at e
  split at e
  · rename_i q hq
    split at e
    · rename_i hc
      obtain ⟨c1, c2, c3, c4⟩ := hc
      exact ⟨q.1, q.2, hq, c1, c2, c3, c4, (Option.some.inj e).symm⟩
    · cases e
  · cases e
/-- an array behind a store -/
theorem RC_set {s : State} {kd n i : Nat} {row : Nat → Int} {x : Int} {w : Value} {cell : Cell} (hk : 10 ≤ kd) (hk2 : kd ≤ 12) (hn : n < 1000000) (c2 : s.isArrayOf cell (tyA kd)) (c3 : cell.vm ≠ .unknown) (c4 : cell.slots.size = n) (hi : i < n)
    (c6 : ∀ j, j < n → ∃ w, cell.slots[j]? = some w ∧ RS G (if kd = 13 then 2 else 0) (row j) w) (hw : RV G (.inl x) w) : RC G s kd n (fun j => if j = i then x else row j) (cell.setSlot i w) := by
  refine Or.inr (Or.inl ⟨hk, by omega, hn, ⟨c2.1, c2.2⟩, c3, by simp [Cell.setSlot, c4], fun j hj => ?_⟩)
  rw [set_slot (by rw [c4]; exact hi)]
  by_cases e : j = i
  · rw [if_pos e]
    refine ⟨w, rfl, ?_⟩
    unfold RS
    rw [if_neg (by rw [if_neg (by omega)]; omega)]
    simp only [e, if_true]
    exact hw
  · rw [if_neg e]
    obtain ⟨z, z1, z2⟩ := c6 j hj
    refine ⟨z, z1, ?_⟩
    simp only [e, if_false]
    exact z2
theorem mw_row (h : mH) (a j : Nat) (v : Int) : (mw h a j v).2 a = fun i => if i = j then v else h.2 a i := by
  funext i
  exact mw_at h a j i v
theorem s_iast {a : Nat} {j v : Int} {r : List mV} {h1 : mH} (d : decode (codeOf mi) pc = .ok (.iastore, 1)) (hx : ast h a j v = some h1) : St2 G l mi pc ls (.inl v :: .inl j :: .inr (.inr a) :: r) h (pc + 1) ls r h1 := by
  obtain ⟨n, q1, q2, q3, q4, rfl⟩ := ast_of hx
  refine ⟨rfl, ?_⟩
  intro p e R s m args below meth c C H locs cells slots Q L S hR hS hL hT kk
  obtain ⟨w, S1, rfl, ⟨x, rfl, rfl⟩, hT1⟩ := RL_cons hT
  obtain ⟨w, S2, rfl, ⟨b, rfl, rfl⟩, hT2⟩ := RL_cons hT1
  obtain ⟨w, S3, rfl, hw, hT3⟩ := RL_cons hT2
  have ew := RV_ref1 hw (by omega)
  subst ew
  obtain ⟨cell, c1, c2, c3, c4, c5, c6⟩ := arr_of hR q1 (by omega) (by omega) (by omega)
  refine W.iast C.1 C.2.1 c1 c2 c3 (by rw [c4]; exact inb q2 q3) rfl rfl d (fun H' e1 e2 e3 => ?_)
  refine kk H' _ L S3 (Rep_set hR q4 rfl (fun k hk => mw_ne h _ _ hk) q1 e2 e3 e1 ?_) (hS.put e2 e3 (rho_AA q4)) hL hT3
  rw [mw_row, i32_cl]
  exact RC_set (by omega) (by omega) c5 c2 c3 c4 (by omega) c6 ⟨x, rfl, rfl⟩
theorem s_bast {a : Nat} {j v : Int} {r : List mV} {h1 : mH} (d : decode (codeOf mi) pc = .ok (.bastore, 1)) (hx : bst h a j v = some h1) : St2 G l mi pc ls (.inl v :: .inl j :: .inr (.inr a) :: r) h (pc + 1) ls r h1 := by
  obtain ⟨kd, n, q1, qk, q2, q3, q4, rfl⟩ := bst_of hx
  refine ⟨rfl, ?_⟩
  intro p e R s m args below meth c C H locs cells slots Q L S hR hS hL hT kk
  obtain ⟨w, S1, rfl, ⟨x, rfl, rfl⟩, hT1⟩ := RL_cons hT
  obtain ⟨w, S2, rfl, ⟨b, rfl, rfl⟩, hT2⟩ := RL_cons hT1
  obtain ⟨w, S3, rfl, hw, hT3⟩ := RL_cons hT2
  have ew := RV_ref1 hw (by omega)
  subst ew
  obtain ⟨cell, c1, c2, c3, c4, c5, c6⟩ := arr_of hR q1 (by omega) (by omega) (by omega)
  rcases qk with rfl | rfl
  · refine W.bast C.1 C.2.1 c1 c2 c3 (by rw [c4]; exact inb q2 q3) rfl rfl d (fun H' e1 e2 e3 => ?_)
    refine kk H' _ L S3 (Rep_set hR q4 rfl (fun k hk => mw_ne h _ _ hk) q1 e2 e3 e1 ?_) (hS.put e2 e3 (rho_AA q4)) hL hT3
    rw [mw_row, i32_cl]
    exact RC_set (by omega) (by omega) c5 c2 c3 c4 (by omega) c6 ⟨_, rfl, by rw [if_pos rfl]; exact i32_i8 x⟩
  · refine W.zast C.1 C.2.1 c1 c2 c3 (by rw [c4]; exact inb q2 q3) rfl rfl d (fun H' e1 e2 e3 => ?_)
    refine kk H' _ L S3 (Rep_set hR q4 rfl (fun k hk => mw_ne h _ _ hk) q1 e2 e3 e1 ?_) (hS.put e2 e3 (rho_AA q4)) hL hT3
    rw [mw_row, i32_cl]
    refine RC_set (by omega) (by omega) c5 c2 c3 c4 (by omega) c6 ⟨_, rfl, ?_⟩
    rw [if_neg (by decide)]
    exact i32_iand x 1
theorem acp_of {b a : Nat} {n : Int} {h1 : mH} (e : acp h b a n = some h1) : ∃ p q, h.1[b]? = some (10, p) ∧ h.1[a]? = some (10, q) ∧ 0 ≤ n ∧ n ≤ (p : Int) ∧ n ≤ (q : Int) ∧ 6 ≤ a ∧ b ≠ 0 ∧ h1 = mrow h a (fun j => if j < n.toNat then h.2 b j else h.2 a j) := by
  unfold acp at e
  split at e
  · rename_i p q hp hq
    split at e
    · rename_i hc
      obtain ⟨c1, c2, c3, c4, c5, c6, c7⟩ := hc
      exact ⟨p.2, q.2, by rw [hp, ← c1], by rw [hq, ← c2], c3, c4, c5, c6, c7, (Option.some.inj e).symm⟩
    · cases e
  · cases e
theorem s_acp {k t a b : Nat} {n : Int} {r : List mV} {h1 : mH} (d : decode (codeOf mi) pc = .ok (.invokestatic k, 3)) (hk : invOf (mown mi) k = some (5, t)) (hc : catS r ≤ 8) (hd : 1 ≤ mdep mi) (hx : acp h b a n = some h1) : St2 G l mi pc ls (.inl n :: .inl 0 :: .inr (.inr a) :: .inl 0 :: .inr (.inr b) :: r) h (pc + 3) ls r h1 := by
  obtain ⟨np, nq, q1, q2, q3, q4, q5, q6, q7, rfl⟩ := acp_of hx
  refine ⟨rfl, ?_⟩
  intro p e R s m args below meth c C H locs cells slots Q L S hR hS hL hT kk
  obtain ⟨w, S1, rfl, ⟨x, rfl, rfl⟩, hT1⟩ := RL_cons hT
  obtain ⟨w, S2, rfl, ⟨z1, rfl, hz1⟩, hT2⟩ := RL_cons hT1
  obtain ⟨w, S3, rfl, hw, hT3⟩ := RL_cons hT2
  obtain ⟨w', S4, rfl, ⟨z2, rfl, hz2⟩, hT4⟩ := RL_cons hT3
  obtain ⟨w', S5, rfl, hw', hT5⟩ := RL_cons hT4
  have ew := RV_ref1 hw (by omega)
  subst ew
  have ew := RV_ref1 hw' q7
  subst ew
  have e1 : z1 = 0 := by rw [i32_eq, hz1]; rfl
  have e2 : z2 = 0 := by rw [i32_eq, hz2]; rfl
  subst e1
  subst e2
  obtain ⟨cs, s1, s2, s3, s4, s5, s6⟩ := arr_of hR q1 q7 (by omega) (by omega)
  obtain ⟨cd, d1, d2, d3, d4, d5, d6⟩ := arr_of hR q2 (by omega) (by omega) (by omega)
  have z0 : ¬ (0 : Int32) < 0 := by decide
  have zi : (0 : Int32).toInt = 0 := rfl
  have hts := C.2.2.2.2.1
  have hW : ∀ w ∈ invW (mown mi) k 5 t, w.before args s = true := fun w hw => hts w (inv_in hk hw)
  obtain ⟨s2a, ks, hks, cms, hkks⟩ := s2
  obtain ⟨d2a, kd, hkd, cmd, hkkd⟩ := d2
  have hrc : RC G s 10 nq (fun j => if j < x.toInt.toNat then h.2 b j else h.2 a j) (copied cs cd 0 0 x) := by
    obtain ⟨f1, f2, f3, -, -⟩ := Cell.storeRun_facts cd (0 : Int32).toNatClampNeg (cs.stretch (0 : Int32).toNatClampNeg x.toNatClampNeg)
    refine Or.inr (Or.inl ⟨by omega, by omega, d5, ⟨by rw [f2]; exact d2a, kd, by rw [f1]; exact hkd, cmd, hkkd⟩, by rw [f2]; exact d3, by rw [f3]; exact d4, fun j hj => ?_⟩)
    have z9 : (0 : Int).toNat = 0 := rfl
    have hlen : (cs.stretch (0 : Int32).toNatClampNeg x.toNatClampNeg).length = x.toInt.toNat := by unfold Cell.stretch; rw [List.length_map, List.length_range, i32_cl]
    rw [Cell.storeRun_get cd _ _ j (by rw [hlen, i32_cl, zi, d4, z9]; omega), hlen, i32_cl, zi, z9, Nat.zero_add]
    by_cases hjn : j < x.toInt.toNat
    · rw [if_pos ⟨Nat.zero_le _, hjn⟩]
      obtain ⟨v, v1, v2⟩ := s6 j (by omega)
      refine ⟨v, ?_, ?_⟩
      · unfold Cell.stretch
        rw [List.getElem?_map, Nat.sub_zero, List.getElem?_range (by rw [i32_cl]; exact hjn)]
        show some (cs.slots.getD _ _) = some v
        rw [Array.getD_eq_getD_getElem?]
        show some ((cs.slots[0 + j]?).getD .null) = some v
        rw [Nat.zero_add, v1]
        rfl
      · simp only [hjn, if_true]
        exact v2
    · rw [if_neg (fun q => hjn q.2)]
      obtain ⟨v, v1, v2⟩ := d6 j hj
      exact ⟨v, v1, by simp only [hjn, if_false]; exact v2⟩
  have hroom : 2 * (F0 m pc L (.int x :: .int 0 :: .ref (rho G a) :: .int 0 :: .ref (rho G b) :: S5)).monitorRoom + (S5.map fun v => v.category).sum + (nativeFrameWords "java/lang/System" "arraycopy" 5 + 11) ≤ R.locals := by
    have hnf : nativeFrameWords "java/lang/System" "arraycopy" 5 = 7 := by decide
    rw [RL_cat hT5, hnf]
    have := C.2.2.2.2.2.2.2.2.1
    show 2 * 0 + catS r + (7 + 11) ≤ R.locals
    omega
  intro T hT0 X
  obtain ⟨vm', X', step⟩ := X.arraycopy C.1 C.2.2.2.1 (hW (.methodLink (cnm (mown mi)) k arraycopyName) (by simp [invW])) (hW (.native arraycopyName) (by simp [invW])) (hW (.static arraycopyName) (by simp [invW])) (hW (.initialized "java/lang/System") (by simp [invW])) (src := rho G b) (dst := rho G a) (cs := cs) (cd := cd) (srcPos := 0) (destPos := 0) (n := x) (by rw [hT0]; exact s1) (by rw [hT0]; exact d1)
    s2a d2a s3 d3 hks hkd hkks hkkd (by rfl) z0 z0 (fun q => by rw [Int32.lt_iff_toInt_lt, zi] at q; omega)
    (by rw [zi, s4]; omega) (by rw [zi, d4]; omega)
    (fun vm₁ _ i hi => by
      rw [i32_cl] at hi
      obtain ⟨v, v1, v2⟩ := s6 i (by omega)
      unfold RS at v2
      rw [if_neg (by decide)] at v2
      obtain ⟨y, rfl, -⟩ := v2
      have e : cs.slots.getD ((0 : Int32).toNatClampNeg + i) .null = .int y := by
        rw [Array.getD_eq_getD_getElem?, i32_cl, zi]
        simp [v1]
      rw [e]
      exact ⟨rfl, trivial⟩)
    (g := F0 m pc L (.int x :: .int 0 :: .ref (rho G a) :: .int 0 :: .ref (rho G b) :: S5)) rfl (by rw [C.2.2.1]; exact hL.1) (rest := S5) rfl (by rw [C.2.1]; exact d) (by have := C.2.2.2.2.2.2.2.1; omega) hroom
  have hlt : rho G a < T.heap.size := by rw [hT0]; exact (Array.getElem?_eq_some_iff.mp d1).1
  have hsz : ((T.setVm vm').setCell (rho G a) (copied cs cd 0 0 x)).heap.size = H.size := by rw [size_setCell]; exact congrArg Array.size hT0
  have hoq : ∀ q, q ≠ rho G a → ((T.setVm vm').setCell (rho G a) (copied cs cd 0 0 x)).heap[q]? = H[q]? := fun q hq => by rw [heapAt_setCell_ne _ (Ne.symm hq)]; exact congrArg (fun z : Heap => z[q]?) hT0
  obtain ⟨t', a1, b1⟩ := kk ((T.setVm vm').setCell (rho G a) (copied cs cd 0 0 x)).heap (locs ++ (cs.stretch (0 : Int32).toNatClampNeg x.toNatClampNeg).zipIdx.map fun q => ⟨rho G a, (0 : Int32).toNatClampNeg + q.2⟩) L S5
    (Rep_set hR q6 rfl (fun k hk => by funext i; simp [mrow, hk]) q2 hsz hoq (heapAt_setCell_self _ hlt) (by
      have : (mrow h a (fun j => if j < x.toInt.toNat then h.2 b j else h.2 a j)).2 a = fun j => if j < x.toInt.toNat then h.2 b j else h.2 a j := by funext i; simp [mrow]
      rw [this]; exact hrc))
    ⟨by rw [hsz]; exact hS.1, fun q h1 h2 => by rw [hoq q (fun e => h2 (by rw [e]; exact rho_AA q6))]; exact hS.2.1 q h1 h2, fun q hq => by
      rcases List.mem_append.mp hq with hq | hq
      · exact hS.2.2 q hq
      · obtain ⟨y, -, rfl⟩ := List.mem_map.mp hq
        exact rho_AA q6⟩ hL hT5 _ rfl X'
  exact ⟨t', step t' a1, b1⟩
end Steps

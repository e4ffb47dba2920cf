/-! making objects and arrays -/
theorem pre_len {a b : List (Nat × Nat)} (h : a <+: b) : a.length ≤ b.length := h.length_le
theorem pre_sum {a b : List (Nat × Nat)} (h : a <+: b) : (a.map Prod.snd).sum ≤ (b.map Prod.snd).sum := by
  obtain ⟨t, rfl⟩ := h
  rw [List.map_append, List.sum_append]
  omega
theorem rho_new {G : mG} {s : State} {h : mH} {H : Heap} (hR : Rep G s h H) : rho G h.1.length = H.size := by
  unfold rho
  rw [if_neg (by have := hR.2.1; omega), hR.1]
theorem rho_lt {G : mG} {s : State} {h : mH} {H : Heap} (hR : Rep G s h H) {k : Nat} {q : Nat × Nat} (hk : 1 ≤ k) (hq : h.1[k]? = some q) : rho G k < H.size := by
  obtain ⟨cell, h1, -⟩ := hR.2.2.2 k q hk hq
  exact (Array.getElem?_eq_some_iff.mp h1).1
theorem mnew_1 (h : mH) (kd n : Nat) : (mnew h kd n).1 = h.1 ++ [(kd, n)] := rfl
theorem Rep_new {G : mG} {s : State} {h : mH} {H H1 : Heap} {kd n : Nat} {cell : Cell} (hR : Rep G s h H) (hz : H1.size = H.size + 1) (ho : ∀ q, q < H.size → H1[q]? = H[q]?) (hc : H1[H.size]? = some cell) (hrc : RC G s kd n (fun _ => 0) cell) : Rep G s (mnew h kd n) H1 := by
  have hR0 := hR
  obtain ⟨r1, r2, r3, r4⟩ := hR
  refine ⟨by rw [hz, mnew_1, List.length_append, r1]; simp; omega, by rw [mnew_1, List.length_append]; omega, r3, fun k q hk hkq => ?_⟩
  rw [mnew_1] at hkq
  by_cases hlt : k < h.1.length
  · rw [List.getElem?_append_left hlt] at hkq
    obtain ⟨cl, h5, h6⟩ := r4 k q hk hkq
    refine ⟨cl, by rw [ho _ (Array.getElem?_eq_some_iff.mp h5).1]; exact h5, ?_⟩
    have : (mnew h kd n).2 k = h.2 k := by funext i; simp [mnew, Nat.ne_of_lt hlt]
    rw [this]
    exact h6
  · have hk2 : k = h.1.length := by
      have := (List.getElem?_eq_some_iff.mp hkq).1
      rw [List.length_append, List.length_singleton] at this
      omega
    subst hk2
    rw [List.getElem?_append_right (Nat.le_refl _), Nat.sub_self] at hkq
    cases hkq
    refine ⟨cell, by rw [rho_new hR0]; exact hc, ?_⟩
    have : (mnew h kd n).2 h.1.length = fun _ => 0 := by funext i; simp [mnew]
    rw [this]
    exact hrc
theorem vaS_new {G : mG} {H0 H H1 : Heap} {locs : List Loc} (hS : va_S (AA G) H0 H locs) (hz : H.size ≤ H1.size) (ho : ∀ q, q < H.size → H1[q]? = H[q]?) : va_S (AA G) H0 H1 locs :=
  ⟨Nat.le_trans hS.1 hz, fun q h1 h2 => by rw [ho q (Nat.lt_of_lt_of_le h1 hS.1)]; exact hS.2.1 q h1 h2, hS.2.2⟩
section Steps
variable {G : mG} {l : Launch} {mi pc : Nat} {ls ls' : mL} {st : List mV} {h : mH}
/-- a step that makes c cells of n slots -/
def St3 (G : mG) (l : Launch) (mi pc : Nat) (ls : mL) (st : List mV) (h : mH) (pc' : Nat) (ls' : mL) (st' : List mV) (h1 : mH) (kc ks : Nat) : Prop :=
  (h.1 <+: h1.1 ∧ h1.1.length = h.1.length + kc ∧ msz h1 = msz h + ks) ∧ ∀ (p : Program) (e : Env) (R : Room) (s : State) (m : MethodId) (args : Array Value) (below : List Frame) (meth : Method) (c : Code), CX G mi p R s m args meth c →
  ∀ (H : Heap) (locs : List Loc) (cells slots : Nat) (Q : State → Prop) (L : Array Slot) (S : List Value), Rep G s h H → va_S (AA G) s.heap H locs → LR G (mmax mi) ls L → RL G st S → cells + kc ≤ R.cells → slots + ks ≤ R.slots →
  (∀ (H' : Heap) (locs' : List Loc) (L' : Array Slot) (S' : List Value), Rep G s h1 H' → va_S (AA G) s.heap H' locs' → LR G (mmax mi) ls' L' → RL G st' S' → W p l e R s m args below meth c H' locs' (cells + kc) (slots + ks) Q (F0 m pc' L' S')) →
  W p l e R s m args below meth c H locs cells slots Q (F0 m pc L S)
theorem St3.nx {pc' : Nat} {st' : List mV} {h1 : mH} {kc ks : Nat} (H1 : St3 G l mi pc ls st h pc' ls' st' h1 kc ks) : Nx G l mi pc ls st h pc' ls' st' h1 := by
  obtain ⟨⟨e1, e2, e3⟩, H1⟩ := H1
  refine ⟨e1, fun v h' hp hs => ?_⟩
  intro p e R s m args below meth c C H locs cells slots Q L S hR hS hL hT hc hsl ret
  have l1 := pre_len hp
  have l2 : msz h1 ≤ msz h' := pre_sum hp
  have k1 : cells + kc + (h'.1.length - h1.1.length) = cells + (h'.1.length - h.1.length) := by omega
  have k2 : slots + ks + (msz h' - msz h1) = slots + (msz h' - msz h) := by omega
  refine H1 p e R s m args below meth c C H locs cells slots Q L S hR hS hL hT (by omega) (by omega) (fun H' locs' L' S' hR' hS' hL' hT' => hs p e R s m args below meth c C H' locs' (cells + kc) (slots + ks) Q L' S' hR' hS' hL' hT' (by omega) (by omega) (fun a1 a2 a3 a4 a5 a6 a7 a8 a9 => ?_))
  rw [k1, k2]
  exact ret a1 a2 a3 a4 a5 a6 a7 a8 a9
theorem msz_new (h : mH) (kd n : Nat) : msz (mnew h kd n) = msz h + n := by
  unfold msz
  rw [mnew_1, List.map_append, List.sum_append]
  simp
theorem s_new {k ci : Nat} (d : decode (codeOf mi) pc = .ok (.new k, 3)) (hk : newOf (mown mi) k = some ci) : St3 G l mi pc ls st h (pc + 3) ls (.inr (.inr h.1.length) :: st) (mnew h ci (nfld ci)) 1 (nfld ci) := by
  refine ⟨⟨by rw [mnew_1]; exact List.prefix_append _ _, by rw [mnew_1, List.length_append]; rfl, msz_new _ _ _⟩, ?_⟩
  intro p e R s m args below meth c C H locs cells slots Q L S hR hS hL hT hc hsl kk
  obtain ⟨hw, hci⟩ := new_in hk
  have hts := C.2.2.2.2.1
  obtain ⟨hS2, hfc, kC, hkC, hkind⟩ := C.2.2.2.2.2.2.2.2.2.1.1 ci _ (cl_at hci)
  refine W.newcK C.1 C.2.1 C.2.2.2.1 (hts (.classLink (cnm (mown mi)) k (cnm ci)) (hw _ (by simp [newW]))) (hts (.instantiable (cnm ci) (nfld ci)) (hw _ (by simp [newW]))) (hts (.initialized (cnm ci)) (hw _ (by simp [newW]))) rfl d hc hsl hfc rfl (fun H' kC' hk' e1 e2 e3 => ?_)
  obtain ⟨cell, t1, t2, t3, t4⟩ := u_born (o := H.size) (H := H') (tyD ci) hts (lay_in hci) ⟨hS2, hfc, kC, hkC, hkind⟩ hk' e1 (fun j hj => (ty_in hci hj).1)
  refine kk H' locs L (.ref H.size :: S) (Rep_new hR e2 e3 t1 (Or.inl ⟨hci, rfl, t2, t3, fun j hj => ⟨_, t4 j hj, ?_⟩⟩)) (vaS_new hS (by omega) e3) hL ⟨?_, hT⟩
  · have h2 := (ty_in hci hj).2
    unfold RS
    split at h2
    · rename_i q
      rw [if_pos q]
      refine ⟨Int.le_refl 0, ?_⟩
      show defaultValue (tyD ci j) = .null
      cases hty : tyD ci j <;> rw [hty] at h2 <;> simp [FieldType.isReference] at h2 <;> rfl
    · rename_i q
      rw [if_neg q]
      show RV G (.inl 0) (defaultValue (tyD ci j))
      split at h2
      · rw [h2]; exact ⟨0, rfl, rfl⟩
      · rw [h2]; exact ⟨0, rfl, rfl⟩
  · show Value.ref H.size = _
    rw [if_neg (by have := hR.2.1; omega), rho_new hR]
theorem s_newa {at_ : ArrayType} {kd : Nat} {n : Int} {r : List mV} (d : decode (codeOf mi) pc = .ok (.newarray at_, 2)) (hn : 0 ≤ n) (hn2 : n ≤ 100000) (hkd : (at_ = .int ∧ kd = 10) ∨ (at_ = .byte ∧ kd = 11) ∨ (at_ = .boolean ∧ kd = 12)) :
    St3 G l mi pc ls (.inl n :: r) h (pc + 2) ls (.inr (.inr h.1.length) :: r) (mnew h kd n.toNat) 1 n.toNat := by
  refine ⟨⟨by rw [mnew_1]; exact List.prefix_append _ _, by rw [mnew_1, List.length_append]; rfl, msz_new _ _ _⟩, ?_⟩
  intro p e R s m args below meth c C H locs cells slots Q L S hR hS hL hT hc hsl kk
  obtain ⟨w, S1, rfl, ⟨x, rfl, rfl⟩, hT1⟩ := RL_cons hT
  have hts := C.2.2.2.2.1
  obtain ⟨g1, g2, g3⟩ := arc_in
  have hx0 : ¬ x < 0 := fun q => by
    rw [Int32.lt_iff_toInt_lt] at q
    have z : (0 : Int32).toInt = 0 := rfl
    omega
  have fin : ∀ (ty : FieldType) (H' : Heap) (cA : ClassId), tyA kd = ty → defaultValue ty = .int 0 → 10 ≤ kd → kd ≤ 12 → H'[H.size]? = some (arrV cA x.toInt.toNat (fun _ => defaultValue ty)) → H'.size = H.size + 1 → (∀ q, q < H.size → H'[q]? = H[q]?) → ArrOfT s cA ty →
      W p l e R s m args below meth c H' locs (cells + 1) (slots + x.toInt.toNat) Q (F0 m (pc + 2) L (.ref H.size :: S1)) := by
    intro ty H' cA ht hd k1 k2 e1 e2 e3 ha
    refine kk H' locs L (.ref H.size :: S1) (Rep_new hR e2 e3 e1 (Or.inr (Or.inl ⟨k1, by omega, by omega, by rw [ht]; exact ha _ _, (fun q => VmData.noConfusion q), arrV_size _ _ _, fun j hj => ⟨_, arrV_read _ _ hj, ?_⟩⟩))) (vaS_new hS (by omega) e3) hL ⟨?_, hT1⟩
    · unfold RS
      rw [if_neg (by rw [if_neg (by omega)]; omega), hd]
      exact ⟨0, rfl, rfl⟩
    · show Value.ref H.size = _
      rw [if_neg (by have := hR.2.1; omega), rho_new hR]
  rcases hkd with ⟨rfl, rfl⟩ | ⟨rfl, rfl⟩ | ⟨rfl, rfl⟩
  · exact W.newaK (atype := .int) C.1 C.2.1 (hts _ g1) rfl d rfl hx0 (i32_cl x) (by show _ * 4 ≤ _; omega) hc hsl rfl (fun H' cA e1 e2 e3 ha => fin .int H' cA rfl rfl (by omega) (by omega) e1 e2 e3 ha)
  · exact W.newaK (atype := .byte) C.1 C.2.1 (hts _ g2) rfl d rfl hx0 (i32_cl x) (by show _ * 1 ≤ _; omega) hc hsl rfl (fun H' cA e1 e2 e3 ha => fin .byte H' cA rfl rfl (by omega) (by omega) e1 e2 e3 ha)
  · exact W.newaK (atype := .boolean) C.1 C.2.1 (hts _ g3) rfl d rfl hx0 (i32_cl x) (by show _ * 1 ≤ _; omega) hc hsl rfl (fun H' cA e1 e2 e3 ha => fin .boolean H' cA rfl rfl (by omega) (by omega) e1 e2 e3 ha)
theorem s_oinit {k t a : Nat} {r : List mV} (d : decode (codeOf mi) pc = .ok (.invokespecial k, 3)) (hk : invOf (mown mi) k = some (4, t)) (ha : a ≠ 0) (hc : catS r ≤ 8) (hd : 1 ≤ mdep mi) : St1 G l mi pc ls (.inr (.inr a) :: r) h (pc + 3) ls r := by
  intro p e R s m args below meth c C H locs cells slots Q L S hR hS hL hT kk
  obtain ⟨w, S1, rfl, hw, hT1⟩ := RL_cons hT
  have ew := RV_ref1 hw ha
  subst ew
  have hts := C.2.2.2.2.1
  have hW : ∀ w ∈ invW (mown mi) k 4 t, w.before args s = true := fun w hw => hts w (inv_in hk hw)
  refine W.objInit C.1 C.2.1 C.2.2.2.1 (hW (.methodLink (cnm (mown mi)) k objectInit) (by simp [invW])) (hW (.instanceMethod objectInit) (by simp [invW])) (hW (.code objectInit ⟨#[0xb1]⟩ 1 none) (by simp [invW])) (g := F0 m pc L (.ref (rho G a) :: S1)) rfl (by rw [C.2.2.1]; exact hL.1) rfl d (by have := C.2.2.2.2.2.2.2.1; omega) ?_ (kk L S1 hL hT1)
  rw [RL_cat hT1]
  have := C.2.2.2.2.2.2.2.2.1
  show 2 * 0 + catS r + 12 ≤ R.locals
  omega
end Steps

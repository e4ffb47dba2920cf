/-! new int[n][k] -/
theorem mo_outer (c : ClassId) (N h0 : Nat) : ∀ i : Nat, ∀ j, j < N → (Jvm.Free.Multi.outerC c N h0 i).slots[j]? = some (if j < i then .ref (h0 + 1 + j) else .null) := fun i j hj => Jvm.Free.Multi.outerC_slot c N h0 i j hj
section Steps
variable {G : mG} {l : Launch} {mi pc : Nat} {ls ls' : mL} {st : List mV} {h : mH}
theorem grd_in : Cond.classLink (cnm 3) 9 ("[" ++ (FieldType.array .int).toString) ∈ gtbl := by
  refine wAt_in (ps := [239]) (ws := [Cond.classLink (cnm 3) 9 ("[" ++ (FieldType.array .int).toString)]) (by decide +kernel) (by decide +kernel) List.mem_cons_self
theorem mgrd_1 (h : mH) (n k : Nat) : (mgrd h n k).1 = h.1 ++ (13, n) :: List.replicate n (10, k) := rfl
theorem s_grid {n1 n2 : Int} {r : List mV} (d : decode (codeOf mi) pc = .ok (.multianewarray 9 2, 4)) (hm : mown mi = 3) (a1 : 0 ≤ n1) (a2 : n1 ≤ 100) (b1 : 0 ≤ n2) (b2 : n2 ≤ 1000) :
    St3 G l mi pc ls (.inl n2 :: .inl n1 :: r) h (pc + 4) ls (.inr (.inr h.1.length) :: r) (mgrd h n1.toNat n2.toNat) (1 + n1.toNat) (n1.toNat + n1.toNat * n2.toNat) := by
  refine ⟨⟨by rw [mgrd_1]; exact List.prefix_append _ _, by rw [mgrd_1, List.length_append, List.length_cons, List.length_replicate]; omega, ?_⟩, ?_⟩
  · unfold msz
    rw [mgrd_1, List.map_append, List.sum_append, List.map_cons, List.sum_cons, List.map_replicate, List.sum_replicate_nat]
  intro p e R s m args below meth c C H locs cells slots Q L S hR hS hL hT hc hsl kk
  obtain ⟨w, S1, rfl, ⟨x2, rfl, rfl⟩, hT1⟩ := RL_cons hT
  obtain ⟨w, S2, rfl, ⟨x1, rfl, rfl⟩, hT2⟩ := RL_cons hT1
  have hts := C.2.2.2.2.1
  have z : (0 : Int32).toInt = 0 := rfl
  have hn : ¬ x1 < 0 := fun q => by rw [Int32.lt_iff_toInt_lt] at q; omega
  have hk : ¬ x2 < 0 := fun q => by rw [Int32.lt_iff_toInt_lt] at q; omega
  have ho := C.2.2.2.1
  rw [hm] at ho
  have haov : (Cond.arrayOver (.array .int)).before args s = true := C.2.2.2.2.2.2.2.2.2.2.1.2.2.2.2.1
  have hN : x1.toNatClampNeg = x1.toInt.toNat := i32_cl x1
  have hM : x2.toNatClampNeg = x2.toInt.toNat := i32_cl x2
  have hmul : x1.toInt.toNat * x2.toInt.toNat ≤ 100 * 1000 := Nat.mul_le_mul (by omega) (by omega)
  intro T hT0 X
  obtain ⟨vm₁, cA, comp, -, fA, fC, hO, hI, X', step⟩ := X.multianewarray2F C.1 ho (hts _ grd_in) haov (hts _ arc_in.1) (g := F0 m pc L (.int x2 :: .int x1 :: S2)) rfl (by rw [C.2.1]; exact d) rfl hn hk (by omega) (by show _ * 4 ≤ _; omega) (by omega) rfl rfl (by rw [hN]; omega) (by rw [hN, hM]; omega)
  rw [hN, hM] at X' step
  generalize hF : Jvm.Free.Multi.fill (T.setVm vm₁) cA comp x1.toInt.toNat x2.toInt.toNat (defaultValue .int) x1.toInt.toNat = F at X' step
  have hTh : (T.setVm vm₁).heap = H := hT0
  obtain ⟨f1, f2, -, -⟩ := Jvm.Free.Multi.fill_facts (T.setVm vm₁) cA comp x1.toInt.toNat x2.toInt.toNat (defaultValue .int) x1.toInt.toNat
  rw [hF, hTh] at f1 f2
  have hold : ∀ x : Nat, x < H.size → F.heap[x]? = H[x]? := fun x hx => by
    have := Jvm.Free.Multi.fill_old (T.setVm vm₁) cA comp x1.toInt.toNat x2.toInt.toNat (defaultValue .int) (a := x) (by rw [hTh]; exact hx) x1.toInt.toNat
    rw [hF, hTh] at this
    exact this
  have hrow : ∀ j : Nat, j < x1.toInt.toNat → F.heap[H.size + 1 + j]? = some (Jvm.Free.Multi.innerC comp x2.toInt.toNat (defaultValue .int)) := fun j hj => by
    have := Jvm.Free.Multi.fill_inner (T.setVm vm₁) cA comp x1.toInt.toNat x2.toInt.toNat (defaultValue .int) x1.toInt.toNat j hj
    rw [hF, hTh] at this
    exact this
  have hlen : (mgrd h x1.toInt.toNat x2.toInt.toNat).1.length = h.1.length + 1 + x1.toInt.toNat := by rw [mgrd_1, List.length_append, List.length_cons, List.length_replicate]; omega
  have hro : ∀ j, rho G (h.1.length + 1 + j) = H.size + 1 + j := fun j => by
    unfold rho
    rw [if_neg (by have := hR.2.1; omega), hR.1]
    have := hR.2.1
    omega
  have hRep : Rep G s (mgrd h x1.toInt.toNat x2.toInt.toNat) F.heap := by
    have hR0 := hR
    obtain ⟨r1, r2, r3, r4⟩ := hR
    refine ⟨by rw [f1, hlen, r1]; omega, by rw [hlen]; omega, r3, fun k q hk hkq => ?_⟩
    rw [mgrd_1] at hkq
    by_cases hlt : k < h.1.length
    · rw [List.getElem?_append_left hlt] at hkq
      obtain ⟨cl, h5, h6⟩ := r4 k q hk hkq
      refine ⟨cl, by rw [hold _ (Array.getElem?_eq_some_iff.mp h5).1]; exact h5, ?_⟩
      have : (mgrd h x1.toInt.toNat x2.toInt.toNat).2 k = h.2 k := by funext i; simp [mgrd, Nat.ne_of_lt hlt, Nat.not_lt.mpr (Nat.le_of_lt hlt)]
      rw [this]
      exact h6
    · rw [List.getElem?_append_right (Nat.not_lt.mp hlt)] at hkq
      by_cases hk2 : k = h.1.length
      · subst hk2
        rw [Nat.sub_self] at hkq
        cases hkq
        obtain ⟨o1, o2⟩ := hO x1.toInt.toNat H.size x1.toInt.toNat
        obtain ⟨-, -, o3⟩ := Jvm.Free.Multi.outerC_facts cA x1.toInt.toNat H.size x1.toInt.toNat
        refine ⟨_, by rw [rho_new hR0]; exact f2, Or.inr (Or.inl ⟨by omega, by omega, by omega, o1, o2, o3, fun j hj => ⟨_, mo_outer cA _ _ _ j hj, ?_⟩⟩)⟩
        have e : (mgrd h x1.toInt.toNat x2.toInt.toNat).2 h.1.length j = ((h.1.length + 1 + j : Nat) : Int) := by
          have hj' : j < x1.toInt.toNat := hj
          simp only [mgrd]
          rw [if_pos trivial, if_pos hj']
        rw [e]
        unfold RS
        rw [if_pos rfl, if_pos hj]
        refine ⟨by omega, ?_⟩
        show Value.ref (H.size + 1 + j) = _
        rw [Int.toNat_natCast, if_neg (by omega), hro]
      · obtain ⟨j, rfl⟩ : ∃ j, k = h.1.length + 1 + j := ⟨k - h.1.length - 1, by omega⟩
        have e9 : h.1.length + 1 + j - h.1.length = j + 1 := by omega
        rw [e9, List.getElem?_cons_succ] at hkq
        have hj : j < x1.toInt.toNat := by
          have := (List.getElem?_eq_some_iff.mp hkq).1
          rwa [List.length_replicate] at this
        rw [List.getElem?_replicate, if_pos hj] at hkq
        cases hkq
        obtain ⟨i1, i2⟩ := hI x2.toInt.toNat (defaultValue .int)
        refine ⟨_, by rw [hro]; exact hrow j hj, Or.inr (Or.inl ⟨by omega, by omega, by omega, i1, i2, by simp [Jvm.Free.Multi.innerC], fun i hi => ⟨.int 0, ?_, ?_⟩⟩)⟩
        · simp only [Jvm.Free.Multi.innerC]
          rw [Array.getElem?_replicate, if_pos hi]
          rfl
        · have e : (mgrd h x1.toInt.toNat x2.toInt.toNat).2 (h.1.length + 1 + j) i = 0 := by
            simp only [mgrd]
            rw [if_neg (by omega), if_pos (by omega)]
          rw [e]
          exact ⟨0, rfl, rfl⟩
  have k1 : cells + 1 + x1.toInt.toNat = cells + (1 + x1.toInt.toNat) := by omega
  have k2 : slots + x1.toInt.toNat + x1.toInt.toNat * x2.toInt.toNat = slots + (x1.toInt.toNat + x1.toInt.toNat * x2.toInt.toNat) := by omega
  rw [k1, k2] at X'
  obtain ⟨t', q1, q2⟩ := kk F.heap locs L (.ref T.heap.size :: S2) hRep (vaS_new hS (by rw [f1]; omega) hold) hL ⟨by
    show Value.ref T.heap.size = _
    rw [if_neg (by have := hR.2.1; omega), rho_new hR, hT0], hT2⟩ F rfl X'
  exact ⟨t', step t' q1, q2⟩
end Steps

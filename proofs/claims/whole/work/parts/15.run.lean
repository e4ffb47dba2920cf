/-! the whole run -/
section Run
variable {G : mG} {l : Launch}
def Good (G : mG) (l : Launch) (f : mF) : Prop := ∀ mi pc ls st h v h', f mi pc ls st h = some (v, h') → h.1 <+: h'.1 ∧ Snd G l mi pc ls st h v h'
theorem inv_t {c k way t : Nat} (h : invOf c k = some (way, t)) (hw : way ≤ 3) : t < 223 := by
  have h1 := lkp_mem h
  have h2 := List.all_eq_true.mp (List.all_eq_true.mp inv_lt c (List.mem_range.mpr (getD_lt h1))) _ h1
  simp only [Bool.or_eq_true, decide_eq_true_eq] at h2
  omega
theorem inv_i {c k way t : Nat} (h : invOf c k = some (way, t)) (hw : way = 1 ∨ way = 3) : (mname t).name = "<init>" ∧ mans t = 0 := by
  have h1 := lkp_mem h
  have h2 := List.all_eq_true.mp (List.all_eq_true.mp inv_init c (List.mem_range.mpr (getD_lt h1))) _ h1
  simp only [Bool.or_eq_true, Bool.and_eq_true, decide_eq_true_eq] at h2
  rcases h2 with h2 | h2
  · omega
  · exact h2
theorem mown_lt {t : Nat} (ht : t < 222) : mown t < 7 := by
  have h : (List.range 222).all (fun t => decide (mown t < 7)) = true := by decide +kernel
  exact of_decide_eq_true (List.all_eq_true.mp h t (List.mem_range.mpr ht))
theorem virt_t {c k t : Nat} (h : invOf c k = some (0, t)) : t < 222 := by
  have h1 := lkp_mem h
  have hall : (List.range 9).all (fun c => (linv.getD c []).all (fun e => decide (e.2.1 ≠ 0) || decide (e.2.2 < 222))) = true := by decide +kernel
  have h2 := List.all_eq_true.mp (List.all_eq_true.mp hall c (List.mem_range.mpr (getD_lt h1))) _ h1
  simp only [Bool.or_eq_true, decide_eq_true_eq] at h2
  omega
/-- a call, by any of its ways: the run of the callee, then what comes behind -/
theorem call_snd {mi pc k way t : Nat} {ins : Instr} {ls : mL} {as rest st : List mV} {h h0 : mH} {v0 : Option mV}
    (d : decode (codeOf mi) pc = .ok (ins, 3)) (hk : invOf (mown mi) k = some (way, t)) (hins : (way = 0 ∧ ins = .invokevirtual k) ∨ ((way = 1 ∨ way = 3) ∧ ins = .invokespecial k) ∨ (way = 2 ∧ ins = .invokestatic k))
    (hst : st = as.reverse ++ rest) (hlen : as.length = if way = 2 then mpar t else mpar t + 1) (hcat : catS rest ≤ 8) (hdep : mdep t < mdep mi) (hmax : (argL as).length ≤ mmax t) (hrok : rok (wayI ins) t as h = true) (hs : Snd G l t 0 (entL t as) [] h v0 h0)
    {p : Program} {e : Env} {R : Room} {s : State} {m : MethodId} {args : Array Value} {below : List Frame} {meth : Method} {c : Code} (C : CX G mi p R s m args meth c) {H : Heap} {locs : List Loc} {cells slots : Nat} {Q : State → Prop} {L : Array Slot} {S : List Value}
    (hR : Rep G s h H) (hS : va_S (AA G) s.heap H locs) (hL : LR G (mmax mi) ls L) (hT : RL G st S) (hc : cells + (h0.1.length - h.1.length) ≤ R.cells) (hsl : slots + (msz h0 - msz h) ≤ R.slots)
    (kk : ∀ (H' : Heap) (locs' : List Loc) (S' S2 : List Value), Rep G s h0 H' → va_S (AA G) s.heap H' locs' → RVo G v0 S' → RL G rest S2 → W p l e R s m args below meth c H' locs' (cells + (h0.1.length - h.1.length)) (slots + (msz h0 - msz h)) Q (F0 m (pc + 3) L (S' ++ S2))) :
    W p l e R s m args below meth c H locs cells slots Q (F0 m pc L S) := by
  have hway : way ≤ 3 := by rcases hins with ⟨q, _⟩ | ⟨q | q, _⟩ | ⟨q, _⟩ <;> omega
  have ht := inv_t hk hway
  obtain ⟨m1, m2, m3, m4, m5⟩ := nm_in ht
  have hts := C.2.2.2.2.1
  -- the values on the stack
  have hA : RL G as (S.take as.length).reverse := by
    have := RL_rev (RL_take as.length hT)
    rw [hst, List.take_left' (by simp), List.reverse_reverse] at this
    exact this
  have hB : RL G rest (S.drop as.length) := by
    have := RL_drop as.length hT
    rw [hst, List.drop_left' (by simp)] at this
    exact this
  have hSe : S = ((S.take as.length).reverse).reverse ++ S.drop as.length := by rw [List.reverse_reverse, List.take_append_drop]
  generalize hAe : (S.take as.length).reverse = A at hA hSe
  generalize hBe : S.drop as.length = B at hB hSe
  have hAl : A.length = as.length := RL_len hA
  have hM := met_of ht hA hmax hs
  have hcat' : (B.map fun v => v.category).sum ≤ 8 := by rw [RL_cat hB]; exact hcat
  have fix : CallFix p m c (codeOf mi) (mmax mi) s args gtbl (cnm (mown mi)) := ⟨C.1, C.2.1, C.2.2.1, C.2.2.2.1, hts⟩
  have pre : ∀ U : State, U.heap = H → s.WarmedH U.vm → PcT G A h A.toArray U := fun U e1 hW => by
    refine ⟨rfl, by rw [e1]; exact Rep_moved hW.alike hR, va_K.moved hW.alike C.2.2.2.2.2.2.2.2.2.1, XF_warm C.2.2.2.2.2.2.2.2.2.2.1 hW (fun q h1 h2 => by rw [e1]; exact hS.2.1 q h1 h2), ?_⟩
    rw [e1]
    exact Nat.le_trans C.2.2.2.2.2.2.2.2.2.2.2 hS.1
  have fin := fun (run : va_Run p l e R s m args below meth c H locs cells slots (h0.1.length - h.1.length) (msz h0 - msz h) (F0 m pc L S) B (QcT G v0 h0 A.toArray) (AA G)) =>
    call_on (Q := Q) run hS (fun H' locs' ov q1 q2 q3 => kk H' locs' ov.toList B q1 q2 q3 hB)
  rcases hins with ⟨rfl, rfl⟩ | ⟨hw, rfl⟩ | ⟨rfl, rfl⟩
  · -- invokevirtual
    have hW : ∀ w ∈ invW (mown mi) k 0 t, w.before args s = true := fun w hw => hts w (inv_in hk hw)
    rw [if_neg (by decide)] at hlen
    match as, hA, hlen, hrok with
    | .inr (.inr a) :: as', hA, hlen, hrok =>
      obtain ⟨r0, hcell⟩ := recvT hR C.2.2.2.2.2.2.2.2.2.1 (mown_lt (virt_t hk)) hrok
      obtain ⟨w, A', rfl, hw, hA'⟩ := RL_cons hA
      have ew := RV_ref1 hw r0
      subst ew
      refine fin (va_runV (C := cnm (mown t)) (As := A') (rest := B) fix hM ⟨callBT C ht hdep (hW (.methodLink (cnm (mown mi)) k (mname t)) (by simp [invW])), hW (.instanceMethod (mname t)) (by simp [invW]), hW (.selects (cnm (mown t)) (mname t) (mname t)) (by simp [invW])⟩ ⟨PcT_blind, hcell, pre⟩ rfl ?_ hL.1 ?_ (lv_room hcat') d ⟨hc, hsl⟩)
      · have := RL_len hA'
        simp only [List.length_cons] at hlen
        omega
      · show S = _
        rw [hSe]
        simp
    | [], _, _, hrok => cases hrok
    | .inl _ :: _, _, _, hrok => cases hrok
    | .inr (.inl _) :: _, _, _, hrok => cases hrok
  · -- invokespecial
    rw [if_neg (by omega)] at hlen
    obtain ⟨i1, i2⟩ := inv_i hk hw
    have hr : mret t = none := by unfold mret; rw [i2]; rfl
    match as, hA, hlen, hrok with
    | .inr (.inr a) :: as', hA, hlen, hrok =>
      have r0 : a ≠ 0 := of_decide_eq_true hrok
      obtain ⟨w, A', rfl, hw', hA'⟩ := RL_cons hA
      have ew := RV_ref1 hw' r0
      subst ew
      have hn : A'.length = mpar t := by
        have := RL_len hA'
        simp only [List.length_cons] at hlen
        omega
      have hst' : (F0 m pc L S).stack = A'.reverse ++ .ref (rho G a) :: B := by
        show S = _
        rw [hSe]
        simp
      rcases hw with rfl | rfl
      · have hW : ∀ w ∈ invW (mown mi) k 1 t, w.before args s = true := fun w hw => hts w (inv_in hk hw)
        have cb := callBT (mc := h0.1.length - h.1.length) (ms := msz h0 - msz h) C ht hdep (hW (.methodLink (cnm (mown mi)) k (mname t)) (by simp [invW]))
        rw [hr] at cb
        exact fin (va_runI (As := A') (rest := B) fix hM ⟨cb, i1, hW (.instanceMethod (mname t)) (by simp [invW])⟩ ⟨PcT_blind, pre⟩ rfl hn hL.1 hst' (lv_room hcat') d ⟨hc, hsl⟩)
      · have hW : ∀ w ∈ invW (mown mi) k 3 t, w.before args s = true := fun w hw => hts w (inv_in hk hw)
        have cb := callNT (mc := h0.1.length - h.1.length) (ms := msz h0 - msz h) C ht hdep (C.2.2.2.2.2.2.2.2.2.2.1.1 _ _ _ hk)
        rw [hr] at cb
        exact fin (va_runIN (As := A') (rest := B) fix hM ⟨cb, i1, hW (.instanceMethod (mname t)) (by simp [invW])⟩ ⟨PcT_blind, pre⟩ rfl hn hL.1 hst' (lv_room hcat') d ⟨hc, hsl⟩)
    | [], _, _, hrok => cases hrok
    | .inl _ :: _, _, _, hrok => cases hrok
    | .inr (.inl _) :: _, _, _, hrok => cases hrok
  · -- invokestatic
    have hW : ∀ w ∈ invW (mown mi) k 2 t, w.before args s = true := fun w hw => hts w (inv_in hk hw)
    rw [if_pos rfl] at hlen
    exact fin (va_runS (As := A) (rest := B) fix hM ⟨callBT C ht hdep (hW (.methodLink (cnm (mown mi)) k (mname t)) (by simp [invW])), hW (.static (mname t)) (by simp [invW])⟩ ⟨PcT_blind, pre⟩ rfl (by omega) hL.1 hSe (lv_room hcat') d ⟨hc, hsl⟩)
theorem ret_snd {mi pc len : Nat} {ins : Instr} {ls : mL} {st : List mV} {h : mH} {v : Option mV} (d : decode (codeOf mi) pc = .ok (ins, len)) (hl : lenI ins = len ∨ lenI ins = 0) (e : retOf mi ins st = some v) : Snd G l mi pc ls st h v h := by
  intro p e' R s m args below meth c C H locs cells slots Q L S hR hS hL hT hc hsl ret
  unfold retOf at e
  split at e
  · obtain rfl : 1 = len := by simpa [lenI] using hl
    split at e
    · split at e
      · rename_i x hx
        cases e
        obtain ⟨w, q, rfl, hw, hq⟩ := RL_cons hT
        cases RL_nil hq
        have := ret H locs pc L [w] hR hS ⟨w, rfl, hw⟩ (Or.inr ⟨_, rfl, d, hx⟩)
        rw [Nat.sub_self, Nat.sub_self] at this
        exact this
      · cases e
    · cases e
  · obtain rfl : 1 = len := by simpa [lenI] using hl
    split at e
    · split at e
      · rename_i hx
        cases e
        cases RL_nil hT
        have := ret H locs pc L [] hR hS rfl (Or.inl ⟨hx, rfl, d⟩)
        rw [Nat.sub_self, Nat.sub_self] at this
        exact this
      · cases e
    · cases e
  · cases e
theorem callOf_spec {mi : Nat} {ins : Instr} {st : List mV} {q : Nat × List mV × List mV} (e : callOf mi ins st = some q) : ∃ k way, invOf (mown mi) k = some (way, q.1) ∧ ((way = 0 ∧ ins = .invokevirtual k) ∨ ((way = 1 ∨ way = 3) ∧ ins = .invokespecial k) ∨ (way = 2 ∧ ins = .invokestatic k)) ∧
    st = q.2.1.reverse ++ q.2.2 ∧ q.2.1.length = (if way = 2 then mpar q.1 else mpar q.1 + 1) ∧ catS q.2.2 ≤ 8 ∧ mdep q.1 < mdep mi ∧ (argL q.2.1).length ≤ mmax q.1 ∧ lenI ins = 3 := by
  unfold callOf at e
  split at e
  · rename_i k
    split at e
    · rename_i x t hk
      split at e
      · rename_i hc
        cases e
        exact ⟨k, 0, hk, Or.inl ⟨rfl, rfl⟩, by simp, by simp; omega, hc.2.1, hc.2.2.1, hc.2.2.2, rfl⟩
      · cases e
    · cases e
  · rename_i k
    split at e
    · rename_i x t hk
      split at e
      · rename_i hc
        cases e
        exact ⟨k, 1, hk, Or.inr (Or.inl ⟨Or.inl rfl, rfl⟩), by simp, by simp; omega, hc.2.1, hc.2.2.1, hc.2.2.2, rfl⟩
      · cases e
    · rename_i x t hk
      split at e
      · rename_i hc
        cases e
        exact ⟨k, 3, hk, Or.inr (Or.inl ⟨Or.inr rfl, rfl⟩), by simp, by simp; omega, hc.2.1, hc.2.2.1, hc.2.2.2, rfl⟩
      · cases e
    · cases e
  · rename_i k
    split at e
    · rename_i x t hk
      split at e
      · rename_i hc
        cases e
        exact ⟨k, 2, hk, Or.inr (Or.inr ⟨rfl, rfl⟩), by simp, by simp; omega, hc.2.1, hc.2.2.1, hc.2.2.2, rfl⟩
      · cases e
    · cases e
  · cases e
theorem good_step {f : mF} (ih : Good G l f) : Good G l (exec1 f) := by
  intro mi pc ls st h v h' e
  unfold exec1 at e
  split at e
  · rename_i q hd
    obtain ⟨ins, len⟩ := q
    dsimp only at e
    split at e
    · rename_i hl
      unfold ex at e
      split at e
      · rename_i r hr
        cases e
        exact ⟨List.prefix_refl _, ret_snd hd hl hr⟩
      · split at e
        · rename_i q hq
          obtain ⟨k, way, c1, c2, c3, c4, c5, c6, c7, c8⟩ := callOf_spec hq
          have hl3 : len = 3 := by
            rcases hl with z | z
            · rw [← z]; exact c8
            · rw [c8] at z; cases z
          subst hl3
          have goal : ∀ (v0 : Option mV) (h0 : mH) (st2 : List mV), cal f (wayI ins) q.1 q.2.1 h = some (v0, h0) → (∀ S', RVo G v0 S' → ∀ S2, RL G q.2.2 S2 → RL G st2 (S' ++ S2)) → f mi (pc + 3) ls st2 h0 = some (v, h') → h.1 <+: h'.1 ∧ Snd G l mi pc ls st h v h' := by
            intro v0 h0 st2 e1 e2 e3
            unfold cal at e1
            split at e1
            · rename_i hrok
              obtain ⟨p1, s1⟩ := ih _ _ _ _ _ _ _ e1
              obtain ⟨p2, s2⟩ := ih _ _ _ _ _ _ _ e3
              refine ⟨p1.trans p2, ?_⟩
              intro p e' R s m args below meth c C H locs cells slots Q L S hR hS hL hT hc hsl ret
              have l1 := pre_len p1
              have l2 := pre_len p2
              have l3 : msz h ≤ msz h0 := pre_sum p1
              have l4 : msz h0 ≤ msz h' := pre_sum p2
              have k1 : cells + (h0.1.length - h.1.length) + (h'.1.length - h0.1.length) = cells + (h'.1.length - h.1.length) := by omega
              have k2 : slots + (msz h0 - msz h) + (msz h' - msz h0) = slots + (msz h' - msz h) := by omega
              have k3 : cells + (h0.1.length - h.1.length) ≤ R.cells := by omega
              have k4 : slots + (msz h0 - msz h) ≤ R.slots := by omega
              refine call_snd hd c1 c2 c3 c4 c5 c6 c7 hrok s1 C hR hS hL hT k3 k4 (fun H' locs' S' S2 r1 r2 r3 r4 => ?_)
              refine s2 p e' R s m args below meth c C H' locs' _ _ Q L (S' ++ S2) r1 r2 hL (e2 S' r3 S2 r4) (by rw [k1]; exact hc) (by rw [k2]; exact hsl) (fun a1 a2 a3 a4 a5 a6 a7 a8 a9 => ?_)
              rw [k1, k2]
              exact ret a1 a2 a3 a4 a5 a6 a7 a8 a9
            · cases e1
          split at e
          · obtain ⟨h0, e1, e2⟩ := Option.bind_eq_some_iff.mp e
            obtain ⟨r0, e3, e4⟩ := Option.bind_eq_some_iff.mp e1
            obtain ⟨v0, h00⟩ := r0
            split at e4
            · rename_i hv
              cases e4
              have hv : v0 = none := hv
              subst hv
              exact goal none _ _ e3 (fun S' q1 S2 q2 => by have q1 : S' = [] := q1; subst q1; exact q2) e2
            · cases e4
          · obtain ⟨r, e1, e2⟩ := Option.bind_eq_some_iff.mp e
            obtain ⟨r0, e3, e4⟩ := Option.bind_eq_some_iff.mp e1
            obtain ⟨v0, h00⟩ := r0
            split at e4
            · rename_i x hv
              cases e4
              have hv : v0 = some (.inl x) := hv
              subst hv
              exact goal _ _ _ e3 (fun S' q1 S2 q2 => by obtain ⟨w, rfl, hw⟩ := q1; exact ⟨hw, q2⟩) e2
            · cases e4
        · split at e
          · rename_i q hq
            obtain ⟨pc', ls', st', h1⟩ := q
            obtain ⟨n1, n2⟩ := pstep_snd (G := G) (l := l) hd hl hq
            obtain ⟨p2, s2⟩ := ih _ _ _ _ _ _ _ e
            exact ⟨n1.trans p2, n2 v h' p2 s2⟩
          · cases e
    · cases e
  · cases e
theorem good_run : ∀ n, Good G l (mrun n)
  | 0 => fun _ _ _ _ _ _ _ e => by cases e
  | n + 1 => good_step (good_run n)
/-- SOUNDNESS -/
theorem good_Lim : Good G l Lim := by
  intro mi pc ls st h v h' e
  obtain ⟨n, hn⟩ := Lim_some.mp e
  exact good_run n _ _ _ _ _ _ _ hn
end Run

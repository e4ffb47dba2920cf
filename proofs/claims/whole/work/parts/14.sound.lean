/-! THE MINI MACHINE IS SOUND: what it answers, the machine answers -/
theorem Rep_moved {G : mG} {u U : State} {h : mH} {H : Heap} (hvm : u.vm.Alike U.vm) (hR : Rep G u h H) : Rep G U h H := by
  obtain ⟨r1, r2, r3, r4⟩ := hR
  refine ⟨r1, r2, r3, fun k q hk hq => ?_⟩
  obtain ⟨cell, h1, h2⟩ := r4 k q hk hq
  refine ⟨cell, h1, ?_⟩
  rcases h2 with a | ⟨a1, a2, a3, a4, a5⟩ | a
  · exact Or.inl a
  · exact Or.inr (Or.inl ⟨a1, a2, a3, State.isArrayOf_alike hvm a4, a5⟩)
  · exact Or.inr (Or.inr a)
def wsT (t : Nat) : List Cond := Cond.code (mname t) (codeOf t) (mmax t) (mret t) :: gtbl
def rmT (t mc ms : Nat) : Room := { frames := mdep t, cells := mc, slots := ms, locals := 40 * mdep t }
def PcT (G : mG) (A : List Value) (h : mH) : Array Value → State → Prop := fun a U => a = A.toArray ∧ Rep G U h U.heap ∧ va_K G.2.2 vwCl [] U ∧ XF G U ∧ G.1 ≤ U.heap.size
def QcT (G : mG) (v : Option mV) (h' : mH) : Array Value → State → Outcome → State → Prop := fun _ st o t => (∃ ov : Option Value, o = .returned ov ∧ RVo G v ov.toList ∧ Rep G t h' t.heap) ∧ va_F (AA G) st t
theorem nm_in {t : Nat} (ht : t < 223) : (mname t).cls = cnm (mown t) ∧ (mname t).cls ≠ "java/lang/invoke/MethodHandle" ∧ (mname t).cls ≠ "java/lang/invoke/VarHandle" ∧ (parseMethodDescriptor (mname t).desc).map (fun d => d.parameters.length) = some (mpar t) ∧ plainName (mname t).cls = true := by
  have h3 := List.all_eq_true.mp nm_chk t (List.mem_range.mpr ht)
  simp only [Bool.and_eq_true, decide_eq_true_eq] at h3
  exact ⟨h3.1.1.1.1, h3.1.1.1.2, h3.1.1.2, h3.1.2, h3.2⟩
theorem met_of {G : mG} {l : Launch} {t : Nat} (ht : t < 223) {as : List mV} {A : List Value} {h h' : mH} {v : Option mV} (hA : RL G as A) (hm : (argL as).length ≤ mmax t) (hs : Snd G l t 0 (entL t as) [] h v h') :
    Met l (mname t) (wsT t) (rmT t (h'.1.length - h.1.length) (msz h' - msz h)) (PcT G A h) (QcT G v h') (h'.1.length - h.1.length) (msz h' - msz h) (AA G) := by
  obtain ⟨m1, m2, m3, m4, m5⟩ := nm_in ht
  refine Met.ofW (cc := codeOf t) (maxL := mmax t) (ret := mret t) m5 rfl ?_
  intro p e s m args below meth c s₁ B hml hv
  obtain ⟨rfl, hR, hK, hX, hB⟩ := hv
  have hts := atoms_spec (ws := wsT t) B.pre
  have hown : s.vm.findClass (mname t).cls = some m.cls := findClass_of_methodNamed B.named
  rw [m1] at hown
  have C : CX G t p (headSpec (wsT t) (rmT t (h'.1.length - h.1.length) (msz h' - msz h))).room s m A.toArray meth c :=
    ⟨B.exec, B.bytes, hml, hown, fun w hw => hts w (List.mem_cons_of_mem _ hw), B.notSynchronized, fun hn => by have := (name_of_methodNamed B.named B.method).1; rw [this, hn], Nat.le_refl _, Nat.le_refl _, hK, hX, hB⟩
  rw [lg_entry_eq]
  have hlocks := B.notSynchronized
  have hr := B.returns
  refine hs p e _ s m A.toArray below meth c C s.heap [] 0 0 _ _ [] hR va_S.rf (LR_entry hA hm) trivial (by rw [Nat.zero_add]; exact Nat.le_refl _) (by rw [Nat.zero_add]; exact Nat.le_refl _) ?_
  intro H' locs' pc' L' S' hR' hS' hv' hd
  rw [Nat.zero_add, Nat.zero_add]
  have fin : ∀ (t' : State) (ov : Option Value), t'.heap = H' → s.WarmedH t'.vm → ov.toList = S' → QcT G v h' A.toArray s (.returned ov) t' := by
    intro t' ov e1 hW e2
    refine ⟨⟨ov, rfl, by rw [e2]; exact hv', by rw [e1]; exact Rep_moved hW.alike hR'⟩, ?_⟩
    exact hS'.F e1
  rcases hd with ⟨h0, rfl, hd⟩ | ⟨x, rfl, hd, hk⟩
  · have hrt : mret t = none := by unfold mret; rw [h0]; rfl
    rw [hrt] at hr
    have hv' : S' = [] := hv'
    subst hv'
    exact W.vret C.1 C.2.1 hr (fun t' e1 hW => fin t' none e1 hW rfl) hS'.2.2 hd
  · obtain ⟨w, rfl, y, rfl, hy⟩ := hv'
    rcases hk with hk | ⟨hk, hx⟩
    · have hrt : mret t = some .int := by unfold mret; rw [hk]; rfl
      rw [hrt] at hr
      exact W.iret C.1 C.2.1 hr (fun t' e1 hW => fin t' (some (.int y)) e1 hW rfl) hS'.2.2 hd
    · have hrt : mret t = some .boolean := by unfold mret; rw [hk]; rfl
      rw [hrt] at hr
      have hn : narrow .boolean (.int y) = .int y := by
        rcases hx with z | z
        · have : y = 0 := by rw [i32_eq, hy, z]; rfl
          subst this
          decide
        · have : y = 1 := by rw [i32_eq, hy, z]; rfl
          subst this
          decide
      exact W.zret C.1 C.2.1 hr hn (fun t' e1 hW => fin t' (some (.int y)) e1 hW rfl) hS'.2.2 hd
theorem gt_good {w : Cond} (hw : w ∈ gtbl) : goodWord w = true := (List.mem_filter.mp hw).2
theorem PcT_blind {G : mG} {A : List Value} {h : mH} : FrameBlind (PcT G A h) := by
  intro a U g mk q
  obtain ⟨q0, q1, q2, q3, q4⟩ := q
  exact ⟨q0, Rep_moved (u := U) (U := U.calling g mk a) (Vm.Alike.refl U.vm) q1, va_K.moved (u := U) (U := U.calling g mk a) (Vm.Alike.refl U.vm) q2, XF_warm (U := U.calling g mk a) q3 (State.WarmedH.refl U) (fun _ _ _ => rfl), q4⟩
theorem mmax_le {t : Nat} (ht : t < 223) : mmax t ≤ 13 := by
  have h : (List.range 223).all (fun t => decide (mmax t ≤ 13)) = true := by decide +kernel
  exact of_decide_eq_true (List.all_eq_true.mp h t (List.mem_range.mpr ht))
section Call
variable {G : mG} {l : Launch} {mi pc : Nat} {ls : mL} {h h0 : mH}
/-- the words and the room of a call -/
theorem callBT {p : Program} {R : Room} {s : State} {m : MethodId} {args : Array Value} {meth : Method} {c : Code} (C : CX G mi p R s m args meth c) {k t mc ms : Nat} (ht : t < 223) (hdep : mdep t < mdep mi) (hl : (Cond.methodLink (cnm (mown mi)) k (mname t)).before args s = true) :
    CallB R s args (cnm (mown mi)) k (mname t) (codeOf t) (mmax t) (mret t) (wsT t) (rmT t mc ms) mc ms (mpar t) := by
  obtain ⟨m1, m2, m3, m4, m5⟩ := nm_in ht
  have hts := C.2.2.2.2.1
  have hc := mW_in ht (w := Cond.code (mname t) (codeOf t) (mmax t) (mret t)) List.mem_cons_self
  have hi := mW_in ht (w := Cond.initialized (mname t).cls) (List.mem_cons_of_mem _ List.mem_cons_self)
  have hx := mmax_le ht
  refine ⟨rfl, rfl, by have := C.2.2.2.2.2.2.2.1; show mdep t + 1 ≤ _; omega, by have := C.2.2.2.2.2.2.2.2.1; show _ + 40 * mdep t ≤ _; omega, ?_, List.mem_cons_self, hts _ hc, hts _ hi, ⟨m2, m3⟩, ?_, hl⟩
  · intro w hw a' U hW
    have hg : w ∈ gtbl := by
      rcases List.mem_cons.mp hw with rfl | hw
      · exact hc
      · exact hw
    exact word_at hW (good_of_word (gt_good hg)) (hts w hg)
  · intro sig hs
    rw [hs] at m4
    exact (Option.some.inj m4).symm
theorem callNT {p : Program} {R : Room} {s : State} {m : MethodId} {args : Array Value} {meth : Method} {c : Code} (C : CX G mi p R s m args meth c) {k t mc ms : Nat} (ht : t < 223) (hdep : mdep t < mdep mi) (hl : va_Nw (.methodLinkNest (cnm (mown mi)) k (mname t) nestH) s) :
    va_CN R s args (cnm (mown mi)) k (mname t) nestH (codeOf t) (mmax t) (mret t) (wsT t) (rmT t mc ms) mc ms (mpar t) := by
  obtain ⟨m1, m2, m3, m4, m5⟩ := nm_in ht
  have hts := C.2.2.2.2.1
  have hc := mW_in ht (w := Cond.code (mname t) (codeOf t) (mmax t) (mret t)) List.mem_cons_self
  have hi := mW_in ht (w := Cond.initialized (mname t).cls) (List.mem_cons_of_mem _ List.mem_cons_self)
  have hx := mmax_le ht
  refine ⟨⟨rfl, rfl, by have := C.2.2.2.2.2.2.2.1; show mdep t + 1 ≤ _; omega, by have := C.2.2.2.2.2.2.2.2.1; show _ + 40 * mdep t ≤ _; omega, ?_, List.mem_cons_self⟩, hts _ hc, hts _ hi, ⟨m2, m3⟩, ?_, hl.use rfl⟩
  · intro w hw a' U hW
    have hg : w ∈ gtbl := by
      rcases List.mem_cons.mp hw with rfl | hw
      · exact hc
      · exact hw
    exact word_at hW (good_of_word (gt_good hg)) (hts w hg)
  · intro sig hs
    rw [hs] at m4
    exact (Option.some.inj m4).symm
/-- behind the call the caller goes on -/
theorem call_on {p : Program} {e : Env} {R : Room} {s : State} {m : MethodId} {args : Array Value} {below : List Frame} {meth : Method} {c : Code} {H : Heap} {locs : List Loc} {cells slots mc ms : Nat} {Q : State → Prop} {L : Array Slot} {S rest : List Value} {v : Option mV} {a : Array Value}
    (run : va_Run p l e R s m args below meth c H locs cells slots mc ms (F0 m pc L S) rest (QcT G v h0 a) (AA G)) (hS : va_S (AA G) s.heap H locs)
    (kk : ∀ (H' : Heap) (locs' : List Loc) (ov : Option Value), Rep G s h0 H' → va_S (AA G) s.heap H' locs' → RVo G v ov.toList → W p l e R s m args below meth c H' locs' (cells + mc) (slots + ms) Q (F0 m (pc + 3) L (ov.toList ++ rest))) :
    W p l e R s m args below meth c H locs cells slots Q (F0 m pc L S) := by
  intro T hT X
  obtain ⟨v0, st₀, t, T', L0, e1, X', e2, e3, e4, ⟨⟨ov, hov, hrv, hrep⟩, hF⟩, go⟩ := run T hT X
  cases hov
  have ha : s.vm.Alike t.vm := by rw [← e4]; exact X'.warmed.alike
  have hS' : va_S (AA G) s.heap T'.heap (locs ++ L0) := by
    refine ⟨?_, fun q h1 h2 => ?_, fun q hq => ?_⟩
    · rw [e3]; exact Nat.le_trans hS.1 (by rw [← e1]; exact hF.1)
    · rw [e3, hF.2 q (by rw [e1]; exact Nat.lt_of_lt_of_le h1 hS.1) h2, e1]
      exact hS.2.1 q h1 h2
    · rcases List.mem_append.mp hq with hq | hq
      · exact hS.2.2 q hq
      · exact e2 q hq
  obtain ⟨t', q1, q2⟩ := kk T'.heap (locs ++ L0) v0 (by rw [e3]; exact Rep_moved ha.symm hrep) hS' hrv T' rfl X'
  exact ⟨t', go t' q1, q2⟩
/-- a method's receiver -/
theorem recvT {s : State} {H : Heap} {a ci : Nat} (hR : Rep G s h H) (hK : va_K G.2.2 vwCl [] s) (hci : ci < 7) (ho : isO h a ci = true) : a ≠ 0 ∧ ∃ cellB : Cell, H[rho G a]? = some cellB ∧ cellB.vm.isStatics = false ∧ s.vm.findClass (cnm ci) = some cellB.cls := by
  unfold isO at ho
  split at ho
  · rename_i q hq
    simp only [Bool.and_eq_true, decide_eq_true_eq] at ho
    obtain ⟨o1, o2⟩ := ho
    refine ⟨o2, ?_⟩
    obtain ⟨cell, c1, c2⟩ := hR.2.2.2 a q (by omega) hq
    rcases c2 with ⟨_, _, z1, z2, _⟩ | ⟨z, _⟩ | z
    · obtain ⟨-, hfc, -⟩ := hK.1 ci _ (cl_at hci)
      exact ⟨cell, c1, by rw [z2]; rfl, by rw [z1, o1]; exact hfc⟩
    · omega
    · omega
  · cases ho
end Call

/-! THE LAW'S ENTRY: the first memory of the mini machine -/
def gvw : List Cond := flatC (Jvm.Cond.and given_1 narrow_1)
theorem gv_at {args : Array Value} {s : State} (h : (Jvm.Cond.and given_1 narrow_1).before args s = true) (i : Nat) {c : Cond} (hc : gvw[i]? = some c) : c.before args s = true := flat_of_before _ h _ (List.mem_of_getElem? hc)
theorem gv_run {args : Array Value} {s : State} (h : (Jvm.Cond.and given_1 narrow_1).before args s = true) {N p : Nat} {f : Nat → Cond} (hf : (List.range N).map f = (gvw.drop p).take N) (j : Nat) (hj : j < N) : (f j).before args s = true := flat_of_before _ h _ (va_run hf j hj)
def stO : Term := .static "TypedBlocks" "OPERANDS" "[I"
def stD : Term := .static "TypedBlocks" "DRAWN" "[I"
def stS : Term := .string "TypedBlocks" 52
def stV : Term := .field stS "java/lang/String" "value" "[B"
theorem g_lenlt {args : Array Value} {s : State} {t : Term} {v : Value} {a : Nat} {cell : Cell} (h : (Term.length t).eval args s none [] s = some v) (ht : t.eval args s none [] s = some (.ref a)) (hc : s.heap[a]? = some cell) : cell.slots.size < 2147483648 := by
  simp only [Term.eval, Option.bind_eq_bind] at h
  simp [ht] at h
  obtain ⟨cell', hcell, h⟩ := Option.bind_eq_some_iff.mp h
  have e : cell' = cell := Option.some.inj ((State.arrayAt?_spec hcell).1.symm.trans hc)
  subst e
  by_cases hn : cell'.slots.size < 2147483648
  · exact hn
  · rw [if_neg hn] at h; cases h
theorem g_arr {args : Array Value} {s : State} {tm : Term} {ty : FieldType} {N : Nat} {f : Nat → Int32} (hN : N < 2147483648) (harr : (Cond.arrayOf tm ty).before args s = true) (hlen : (Cond.eq (.length tm) (.int (Int32.ofNat N))).before args s = true)
    (hel : ∀ j : Nat, j < N → (Cond.eq (.elem tm (.int (Int32.ofNat j))) (.int (f j))).before args s = true) : ∃ (t : Nat) (cell : Cell), tm.eval args s none [] s = some (.ref t) ∧ s.heap[t]? = some cell ∧ s.isArrayOf cell ty ∧ cell.vm ≠ .unknown ∧ cell.slots.size = N ∧ ∀ j : Nat, j < N → cell.slots[j]? = some (.int (f j)) := by
  obtain ⟨t, ht, cell, g1, g2, g3, g4, g5, g6, -⟩ := va_Tof (f := fun j => .int (f j)) (A := noA) hN harr (va_eqt hlen) (fun j hj => va_eqt (hel j hj)) (fun _ _ q => q)
  have hlt := g_lenlt (va_eqt hlen) ht g1
  refine ⟨t, cell, ht, g1, g2, g3, ?_, g6⟩
  have e1 : (Int32.ofNat cell.slots.size).toInt = (cell.slots.size : Int) := i32_of (n := (cell.slots.size : Int)) (by omega) (by omega)
  have e2 : (Int32.ofNat N).toInt = (N : Int) := i32_of (n := (N : Int)) (by omega) (by omega)
  have e3 : Int32.ofNat cell.slots.size = Int32.ofNat N := g5
  rw [e3, e2] at e1
  omega
def opB (j : Nat) : Int32 := Int32.ofInt (oprL.getD j 0)
def drB (j : Nat) : Int32 := Int32.ofInt (drc j)
theorem opB_all : ∀ j, j < 42 → (opB j).toInt = oprL.getD j 0 := by decide +kernel
theorem drB_all : ∀ j, j < 5 → (drB j).toInt = drc j := by decide +kernel
theorem txB_fst : ∀ j, j < 129 → (txB j).toInt = fstF j := by decide +kernel
set_option maxRecDepth 100000 in
theorem run_o : (List.range 42).map (fun j => Cond.eq (.elem stO (.int (Int32.ofNat j))) (.int (opB j))) = (gvw.drop 12).take 42 := by decide +kernel
set_option maxRecDepth 100000 in
theorem run_d : (List.range 5).map (fun j => Cond.eq (.elem stD (.int (Int32.ofNat j))) (.int (drB j))) = (gvw.drop 57).take 5 := by decide +kernel
set_option maxRecDepth 100000 in
theorem run_t : (List.range 129).map (fun j => Cond.eq (.elem stV (.int (Int32.ofNat j))) (.int (txB j))) = (gvw.drop 66).take 129 := by decide +kernel
/-- the five cells that were there: where they are -/
def adr (b tO tD tS tV : Nat) (k : Nat) : Nat := if k = 1 then b else if k = 2 then tO else if k = 3 then tD else if k = 4 then tS else tV
def fir (L : Nat) (xs : Nat → Int32) (k j : Nat) : Int := if k = 1 then (if j < L then (xs j).toInt else 0) else if k = 2 then oprL.getD j 0 else if k = 3 then drc j else fstF j
theorem RS_i {G : mG} {x : Int} {w : Value} (h : RV G (.inl x) w) : RS G 0 x w := by
  unfold RS
  rw [if_neg (by decide)]
  exact h
set_option maxRecDepth 100000 in
theorem nst_chk : (List.range 9).all (fun c => (linv.getD c []).all (fun e => decide (e.2.1 ≠ 3) || decide (Cond.methodLinkNest (cnm c) e.1 (mname e.2.2) nestH ∈ tables_1_1))) = true := by decide +kernel
theorem nst_in {c k t : Nat} (h : invOf c k = some (3, t)) : Cond.methodLinkNest (cnm c) k (mname t) nestH ∈ lw_tbl := by
  have h1 := lkp_mem h
  have h2 := List.all_eq_true.mp (List.all_eq_true.mp nst_chk c (List.mem_range.mpr (getD_lt h1))) _ h1
  simp only [Bool.or_eq_true, decide_eq_true_eq] at h2
  rcases h2 with h2 | h2
  · exact absurd rfl h2
  · unfold lw_tbl tables_1
    simp only [List.mem_append]
    exact Or.inr (Or.inl h2)
theorem g_adr {b tO tD tS tV n : Nat} (h1 : b < n) (h2 : tO < n) (h3 : tD < n) (h4 : tS < n) (h5 : tV < n) (k : Nat) : adr b tO tD tS tV k < n := by
  unfold adr
  by_cases q1 : k = 1
  · rw [if_pos q1]; exact h1
  · rw [if_neg q1]
    by_cases q2 : k = 2
    · rw [if_pos q2]; exact h2
    · rw [if_neg q2]
      by_cases q3 : k = 3
      · rw [if_pos q3]; exact h3
      · rw [if_neg q3]
        by_cases q4 : k = 4
        · rw [if_pos q4]; exact h4
        · rw [if_neg q4]; exact h5
/-- what the Statement says of the start, in one -/
theorem g_start {s : State} {b L : Nat} {xs : Nat → Int32} (hL : L ≤ 3584) (hts : ∀ w ∈ lw_tbl, w.before #[Value.ref b] s = true) (hX : va_X b L xs s s.heap) (hgv : (Jvm.Cond.and given_1 narrow_1).before #[Value.ref b] s = true) :
    ∃ G : mG, G.1 = s.heap.size ∧ G.2.1 1 = b ∧ va_K G.2.2 vwCl [] s ∧ XF G s ∧ Rep G s (bas L, fir L xs) s.heap := by
  obtain ⟨tO, cO, o1, o2, o3, o4, o5, o6⟩ := g_arr (tm := stO) (ty := .int) (N := 42) (f := opB) (by decide) (gv_at hgv 10 rfl) (gv_at hgv 11 rfl) (fun j hj => gv_run hgv run_o j hj)
  obtain ⟨tD, cD, d1, d2, d3, d4, d5, d6⟩ := g_arr (tm := stD) (ty := .int) (N := 5) (f := drB) (by decide) (gv_at hgv 55 rfl) (gv_at hgv 56 rfl) (fun j hj => gv_run hgv run_d j hj)
  obtain ⟨tV, cV, v1, v2, v3, v4, v5, v6⟩ := g_arr (tm := stV) (ty := .byte) (N := 129) (f := txB) (by decide) (gv_at hgv 64 rfl) (gv_at hgv 65 rfl) (fun j hj => gv_run hgv run_t j hj)
  have hex : (Cond.exactly stS "java/lang/String").before #[Value.ref b] s = true := gv_at hgv 62 rfl
  obtain ⟨tS, cc, cS, kS, q1, q2, q3, q4, q5, q6, -⟩ := Cond.exactly_spec (args := #[Value.ref b]) (first := s) (o := none) (s := s) (idx := []) (t := stS) (cls := "java/lang/String") hex
  obtain ⟨scr, x1, x2, x3, x4, x5⟩ := hX
  have lb := (Array.getElem?_eq_some_iff.mp x1).1
  have lO := (Array.getElem?_eq_some_iff.mp o2).1
  have lD := (Array.getElem?_eq_some_iff.mp d2).1
  have lV := (Array.getElem?_eq_some_iff.mp v2).1
  have lS := (Array.getElem?_eq_some_iff.mp q3).1
  have hk : ∀ c, ∃ q : ClassId × (Nat → Nat), c < 7 → u_Kn s (cnm c) (TXs c) (nfld c) q.1 q.2 := by
    intro c
    by_cases hc : c < 7
    · have hi : ∃ n, Cond.instantiable (cnm c) n ∈ lw_tbl := by
        match c, hc with
        | 0, _ => exact ⟨10, List.mem_of_getElem? (i := 145) (by decide +kernel)⟩
        | 1, _ => exact ⟨11, List.mem_of_getElem? (i := 188) (by decide +kernel)⟩
        | 2, _ => exact ⟨1, List.mem_of_getElem? (i := 116) (by decide +kernel)⟩
        | 3, _ => exact ⟨3, List.mem_of_getElem? (i := 234) (by decide +kernel)⟩
        | 4, _ => exact ⟨4, List.mem_of_getElem? (i := 110) (by decide +kernel)⟩
        | 5, _ => exact ⟨7, List.mem_of_getElem? (i := 102) (by decide +kernel)⟩
        | 6, _ => exact ⟨37, List.mem_of_getElem? (i := 885) (by decide +kernel)⟩
      obtain ⟨n, hn⟩ := hi
      obtain ⟨cC, iS, hKn⟩ := u_known (C := cnm c) (T := TXs c) (N := nfld c) (n := n) (fun w (hw : w ∈ gtbl) => hts w (List.mem_filter.mp hw).1) (lay_in hc) (hts _ hn)
      exact ⟨(cC, iS), fun _ => hKn⟩
    · exact ⟨(0, fun _ => 0), fun h => absurd h hc⟩
  obtain ⟨dd, hdd⟩ := Classical.axiomOfChoice hk
  let G : mG := (s.heap.size, adr b tO tD tS tV, (fun c => (dd c).1, fun c => (dd c).2))
  have hA : ∀ a : Nat, a < s.heap.size → ¬ AA G a := fun a ha => Nat.not_le.mpr ha
  have hK : va_K G.2.2 vwCl [] s := by
    refine ⟨fun c q hq => ?_, fun k q h => by simp at h⟩
    match c, hq with
    | 0, hq => cases hq; exact hdd 0 (by decide)
    | 1, hq => cases hq; exact hdd 1 (by decide)
    | 2, hq => cases hq; exact hdd 2 (by decide)
    | 3, hq => cases hq; exact hdd 3 (by decide)
    | 4, hq => cases hq; exact hdd 4 (by decide)
    | 5, hq => cases hq; exact hdd 5 (by decide)
    | 6, hq => cases hq; exact hdd 6 (by decide)
    | k + 7, hq => simp [vwCl] at hq
  have hF : XF G s := by
    refine ⟨fun c k t h => va_Nw.of rfl (hts _ (nst_in h)), va_Nw.of rfl (hts _ (List.mem_of_getElem? (i := 423) (by decide +kernel))), ?_, ?_, ?_, ?_, ?_, ?_, ?_, ?_, ?_, ?_⟩
    · exact va_Zref (hts _ (List.mem_of_getElem? (i := 424) (by decide +kernel))) (hts _ (List.mem_of_getElem? (i := 88) (by decide +kernel))) o1 hA
    · exact va_Zref (hts _ (List.mem_of_getElem? (i := 860) (by decide +kernel))) (hts _ (List.mem_of_getElem? (i := 88) (by decide +kernel))) d1 hA
    · exact hts (.arrayOver (.array .int)) (List.mem_of_getElem? (i := 240) (by decide +kernel))
    · exact vk_R.of (A := #[Value.ref b]) (hts (.stringRef "TypedBlocks" 52 txt0) (List.mem_of_getElem? (i := 252) (by decide +kernel))) q1
    · exact va_Oof hex q1 hA
    · exact vk_OFof (t := stS) q1 (va_eqt (gv_at hgv 63 rfl)) hA
    · exact vk_OFof (t := stS) q1 v1 hA
    · exact va_Zof (hts _ (List.mem_of_getElem? (i := 262) (by decide +kernel))) (hts _ (List.mem_of_getElem? (i := 94) (by decide +kernel))) (va_eqi (gv_at hgv 4 rfl)) hA
    · exact va_Zqof (hts _ (List.mem_of_getElem? (i := 278) (by decide +kernel))) (hts _ (List.mem_of_getElem? (i := 96) (by decide +kernel))) (gv_at hgv 5 rfl) hA
    · exact ⟨cV, v2, v3, v4, by rw [v5]; exact Nat.le_refl _, by rw [v5], v6, hA _ lV⟩
  refine ⟨G, rfl, rfl, hK, hF, rfl, Nat.le_refl 6, fun k _ _ => g_adr lb lO lD lS lV k, fun k q hk hq => ?_⟩
  match k, hk, hq with
  | 1, _, hq =>
    cases hq
    refine ⟨scr, x1, Or.inr (Or.inl ⟨Nat.le_refl 10, show 10 ≤ 13 by decide, show L < 1000000 by omega, x2, x3, x4, fun j hj => ⟨_, x5 j hj, RS_i ⟨xs j, rfl, ?_⟩⟩⟩)⟩
    exact (if_pos hj).symm
  | 2, _, hq =>
    cases hq
    exact ⟨cO, o2, Or.inr (Or.inl ⟨by decide, by decide, by decide, o3, o4, o5, fun j hj => ⟨_, o6 j hj, RS_i ⟨opB j, rfl, opB_all j hj⟩⟩⟩)⟩
  | 3, _, hq =>
    cases hq
    exact ⟨cD, d2, Or.inr (Or.inl ⟨by decide, by decide, by decide, d3, d4, d5, fun j hj => ⟨_, d6 j hj, RS_i ⟨drB j, rfl, drB_all j hj⟩⟩⟩)⟩
  | 4, _, hq =>
    cases hq
    exact ⟨cS, q3, Or.inr (Or.inr rfl)⟩
  | 5, _, hq =>
    cases hq
    exact ⟨cV, v2, Or.inr (Or.inl ⟨by decide, by decide, by decide, v3, v4, v5, fun j hj => ⟨_, v6 j hj, RS_i ⟨txB j, rfl, txB_fst j hj⟩⟩⟩)⟩
  | k + 6, _, hq => simp [bas] at hq
theorem asI_of {x : mR} {v : Int} {h' : mH} (e : asI x = some (v, h')) : x = some (some (.inl v), h') := by
  unfold asI at e
  obtain ⟨r, e1, e2⟩ := Option.bind_eq_some_iff.mp e
  obtain ⟨o, g⟩ := r
  match o, e2 with
  | some (.inl u), e2 => cases e2; exact e1
  | some (.inr _), e2 => cases e2
  | none, e2 => cases e2
theorem whole_start {p : Program} {e : Env} {s : State} {m : MethodId} {below : List Frame} {meth : Method} {c : Code} (l : Launch) (hflags : l.flags = flags0) {b L : Nat} {xs : Nat → Int32} (hL : L ≤ 3584) (C0 : lw_At p s m meth c b L xs) : W p l e room_1 s m #[Value.ref b] below meth c s.heap [] 0 0 (lw_Z below #[Value.ref b] s) (entryFrame m ([Value.ref b] : List Value).toArray 4) := by
  obtain ⟨hx, hb, hr, hml, hown, hts, hX, hbl, hlocks, hgv⟩ := C0
  obtain ⟨G, g1, g2, hK, hF, hR⟩ := g_start hL hts hX hgv
  have h0 : H0 L (fir L xs) := ⟨fun j _ => rfl, fun j _ => rfl, fun j _ => rfl⟩
  have hS : ∀ j, fir L xs 1 j < 2147483648 := by
    intro j
    show (if j < L then (xs j).toInt else 0) < 2147483648
    split
    · exact Int32.toInt_lt (xs j)
    · decide
  obtain ⟨h', hrun, hsh⟩ := law_mini hL h0 hS
  have hlim : Lim 223 0 (entL 223 [.inr (.inr 1)]) [] (bas L, fir L xs) = some (some (.inl 1), h') := asI_of hrun
  obtain ⟨hpre, hsnd⟩ := good_Lim (G := G) (l := l) _ _ _ _ _ _ _ hlim
  have hC : CX G 223 p room_1 s m #[Value.ref b] meth c := ⟨hx, hb, hml, hown, fun w hw => hts w (List.mem_filter.mp hw).1, hlocks, fun hn => absurd hn (by decide), by decide, by decide, hK, hF, by rw [g1]; exact Nat.le_refl _⟩
  have hA : RL G [.inr (.inr 1)] [Value.ref b] := ⟨by show Value.ref b = Value.ref (G.2.1 1); rw [g2], trivial⟩
  have e1 : h'.1.length - (bas L, fir L xs).1.length = 55 := by rw [hsh]; rfl
  have e2 : msz h' - msz (bas L, fir L xs) ≤ 7302250 := by
    refine Nat.le_trans (Nat.sub_le _ _) ?_
    unfold msz
    rw [hsh]
    simp only [shm, List.map_cons, List.map_nil, List.sum_cons, List.sum_nil]
    omega
  rw [lg_entry_eq]
  refine hsnd p e room_1 s m #[Value.ref b] below meth c hC s.heap [] 0 0 _ _ [] hR va_S.rf (LR_entry (t := 223) hA (by decide)) trivial (by rw [e1]; decide) (by rw [Nat.zero_add]; exact e2) ?_
  intro H' locs' pc' L' S' hR' hS' hv' hd
  obtain ⟨w, rfl, y, rfl, hy⟩ := hv'
  have hy1 : y = 1 := by rw [i32_eq, hy]; rfl
  subst hy1
  rcases hd with ⟨_, hd, _⟩ | ⟨x, _, hd, _⟩
  · cases hd
  · refine va_forget (fun q hq => by have := hS'.2.2 q hq; rw [← g1]; exact this) ?_
    refine W.widen (k := 600000) (n := 7302250) (by rw [e1]; decide) (by rw [Nat.zero_add]; exact e2) ?_
    exact lw_ret hx hb hr hlocks hd

/-! THE CLASS'S CONSTRUCTOR: its first state -/
theorem lkp_ck {l : List (Nat × Int)} {j : Nat} {v : Int} {F : Nat → Int} : (∀ e ∈ l, F e.1 = e.2) → lkp l j = some v → F j = v := by
  induction l with
  | nil => intro _ e; cases e
  | cons e r ih =>
    intro h hl
    have hl' : (if e.1 = j then some e.2 else lkp r j) = some v := hl
    by_cases q : e.1 = j
    · rw [if_pos q] at hl'
      rw [← q, h e List.mem_cons_self]
      exact Option.some.inj hl'
    · rw [if_neg q] at hl'
      exact ih (fun e he => h e (List.mem_cons_of_mem _ he)) hl'
theorem all_ck {l : List (Nat × Int)} {a : Nat} (h : l.all (fun e => decide (wv wC a e.1 0 = e.2)) = true) : ∀ e ∈ l, wv wC a e.1 0 = e.2 := fun e he => of_decide_eq_true (List.all_eq_true.mp h e he)
theorem all_ck2 {l : List (Nat × Int)} {F : Nat → Int} (h : l.all (fun e => decide (F e.1 = e.2)) = true) : ∀ e ∈ l, F e.1 = e.2 := fun e he => of_decide_eq_true (List.all_eq_true.mp h e he)
theorem wC_rows : ∀ e ∈ wC, e.1 = 6 ∨ e.1 = 7 ∨ e.1 = 8 ∨ e.1 = 11 ∨ e.1 = 13 ∨ e.1 = 15 ∨ e.1 = 16 ∨ e.1 = 22 ∨ e.1 = 23 ∨ e.1 = 29 ∨ e.1 = 30 ∨ e.1 = 39 ∨ e.1 = 40 := by decide
/-- what is there before the law begins -/
def H0 (L : Nat) (f : Nat → Nat → Int) : Prop := (∀ j, j < 42 → f 2 j = oprL.getD j 0) ∧ (∀ j, j < 5 → f 3 j = drc j) ∧ ∀ j, j < 129 → f 5 j = fstF j
section In
variable {L n : Nat} {T P : Nat → Int} {U K : List (Nat → Int)} {h : mH} {f : Nat → Nat → Int}
theorem AS_hi (ha : AS (bas L, f) sC wC h) {a : Nat} (h6 : 6 ≤ a) (h43 : a < 43) (j : Nat) : h.2 a j = wv wC a j 0 := by
  have e := ha.2.1 a j h43
  have q : ¬ a < (bas L, f).1.length := by show ¬ a < 6; omega
  rw [if_neg q] at e
  exact e
theorem AS_lo (ha : AS (bas L, f) sC wC h) {a : Nat} (h6 : a < 6) : h.2 a = f a := by
  funext j
  have e := ha.2.1 a j (show a < 43 by omega)
  have q : a < (bas L, f).1.length := h6
  rw [if_pos q, wv_none wC (fun e he => by have := wC_rows e he; omega)] at e
  exact e
theorem AS_Ly (ha : AS (bas L, f) sC wC h) (h0 : H0 L f) : Ly L h := by
  refine ⟨⟨[], by rw [List.append_nil]; exact ha.1⟩, fun a j v e => ?_⟩
  unfold ptr at e
  split at e
  · rw [AS_lo ha (by decide)]
    have z : oprL.getD j 0 = v := lkp_ck (F := fun j => oprL.getD j 0) (all_ck2 (F := fun j => oprL.getD j 0) (by decide)) e
    rw [← z]
    refine h0.1 j ?_
    by_cases q : j < 42
    · exact q
    · exfalso
      have : ∀ (l : List (Nat × Int)), (∀ e ∈ l, e.1 < 42) → lkp l j = none := fun l => by
        induction l with
        | nil => intro _; rfl
        | cons e r ih =>
          intro hl
          have := hl e List.mem_cons_self
          show (if e.1 = j then some e.2 else lkp r j) = none
          rw [if_neg (by omega)]
          exact ih (fun e he => hl e (List.mem_cons_of_mem _ he))
      rw [this _ (by decide)] at e
      cases e
  · rw [AS_lo ha (by decide)]
    have z : drc j = v := lkp_ck (F := drc) (all_ck2 (F := drc) (by decide)) e
    rw [← z]
    refine h0.2.1 j ?_
    by_cases q : j < 5
    · exact q
    · exfalso
      have : ∀ (l : List (Nat × Int)), (∀ e ∈ l, e.1 < 5) → lkp l j = none := fun l => by
        induction l with
        | nil => intro _; rfl
        | cons e r ih =>
          intro hl
          have := hl e List.mem_cons_self
          show (if e.1 = j then some e.2 else lkp r j) = none
          rw [if_neg (by omega)]
          exact ih (fun e he => hl e (List.mem_cons_of_mem _ he))
      rw [this _ (by decide)] at e
      cases e
  all_goals first
    | cases e
    | (rw [AS_hi ha (by decide) (by decide)]; exact lkp_ck (F := fun j => wv wC _ j 0) (all_ck (by decide)) e)
theorem AS_z (ha : AS (bas L, f) sC wC h) {a : Nat} (h6 : 6 ≤ a) (h43 : a < 43) (hr : a = 9 ∨ a = 12 ∨ a = 14 ∨ (31 ≤ a ∧ a ≤ 38) ∨ a = 41 ∨ a = 42) : h.2 a = fun _ => 0 := by
  funext j
  rw [AS_hi ha h6 h43, wv_none wC (fun e he => by have := wC_rows e he; omega)]
theorem AS_CI (ha : AS (bas L, f) sC wC h) (h0 : H0 L f) (T : Nat → Int) : CI L 0 T (fun _ => 0) [] [] h := by
  have zz : Zr (fun _ => (0 : Int)) := fun _ _ => rfl
  refine ⟨AS_Ly ha h0, ⟨?_, ?_, ?_⟩, ⟨?_, by decide, fun i hi => by omega⟩, ?_, ⟨⟨0, by decide, ?_, fun i q hq => by simp at hq⟩, ?_, by simp, fun j hj => ?_⟩, ⟨0, by decide, ?_, fun i q hq => by simp at hq⟩, ?_, by simp, fun j hj => ?_⟩
  · rw [AS_z ha (by decide) (by decide) (by decide)]; exact zz
  · rw [AS_z ha (by decide) (by decide) (by decide)]; exact zz
  · rw [AS_z ha (by decide) (by decide) (by decide)]; exact zz
  · rw [AS_hi ha (by decide) (by decide)]; rfl
  · exact AS_z ha (by decide) (by decide) (by decide)
  · rw [AS_hi ha (by decide) (by decide)]; rfl
  · rw [AS_hi ha (by decide) (by decide)]; rfl
  · rw [AS_z ha (by omega) (by omega) (by omega)]; exact zz
  · rw [AS_hi ha (by decide) (by decide)]; rfl
  · rw [AS_hi ha (by decide) (by decide)]; rfl
  · rw [AS_z ha (by omega) (by omega) (by omega)]; exact zz
theorem t7 : (7 : Int).toNat = 7 := rfl
theorem t9' : (9 : Int).toNat = 9 := rfl
theorem c_app (hc : CI L n T P U K h) (hn : n < 200) {x : Int} (hx : T n = x) : ∃ h', F_Tx_append 7 x h = some (1, h') ∧ CI L (n + 1) T P U K h' ∧ TF h h' := by
  obtain ⟨hL, ⟨z9, z12, z14⟩, ⟨t1, t2, t3⟩, hP, hU, hK⟩ := hc
  have L1 : Ly L (mw h 10 n x) := Ly_mw hL rfl
  have L2 : Ly L (mw (mw h 10 n x) 7 2 ((n + 1 : Nat) : Int)) := Ly_mw L1 rfl
  refine ⟨mw (mw h 10 n x) 7 2 ((n + 1 : Nat) : Int), ?_, ⟨L2, ⟨?_, ?_, ?_⟩, ⟨mw_s _ _ _ _, by omega, fun i hi => ?_⟩, ?_, ShI_c (fun b hb => ?_) hU, ShI_c (fun b hb => ?_) hK⟩, TF_tr (TF_mw h x (by decide) (by decide)) (TF_mw _ _ (by decide) (by decide))⟩
  · have e0 : (mw h 10 n x).2 7 2 = (n : Int) := by rw [mw_o _ _ _ (by decide)]; exact t1
    rw [q_Tx_append _ _ _ (o_7 hL), g_7 hL (by decide), Option.bind_some, t1, if_neg (by omega), Option.bind_some, if_pos (by omega), p_7_1 hL, Option.bind_some, Option.bind_some, t10, w_10 hL (by omega) (by omega), Option.bind_some, tn, g_7 L1 (by decide), Option.bind_some, e0, w32_nn n (by omega), f_7 L1 (by decide), Option.bind_some]
  · rw [mw_o _ _ _ (by decide), mw_o _ _ _ (by decide)]; exact z9
  · rw [mw_o _ _ _ (by decide), mw_o _ _ _ (by decide)]; exact z12
  · rw [mw_o _ _ _ (by decide), mw_o _ _ _ (by decide)]; exact z14
  · rw [mw_o _ _ _ (by decide)]
    by_cases q : i = n
    · rw [q, mw_s, hx]
    · rw [mw_d _ _ q]; exact t3 i (by omega)
  · rw [mw_o _ _ _ (by decide), mw_o _ _ _ (by decide)]; exact hP
  · rw [mw_o _ _ _ (by omega), mw_o _ _ _ (by omega)]
  · rw [mw_o _ _ _ (by omega), mw_o _ _ _ (by omega)]
theorem sh_5 (hL : Ly L h) : h.1[5]? = some (11, 129) := by obtain ⟨s, e⟩ := hL.1; rw [e]; rfl
theorem r_5 (hL : Ly L h) {p : Nat} (hp : p < 129) : ald 11 h 5 (p : Int) = some (h.2 5 p) := by
  unfold ald
  rw [sh_5 hL]
  exact if_pos ⟨rfl, by omega, by omega, by decide⟩
theorem n_5 (hL : Ly L h) : aln h 5 = some 129 := by
  unfold aln
  rw [sh_5 hL]
  rfl
theorem CI_w0 (hc : CI L n T P U K h) : CI L 0 T P U K (mw h 7 2 0) := by
  obtain ⟨hL, ⟨z9, z12, z14⟩, ⟨t1, t2, t3⟩, hP, hU, hK⟩ := hc
  exact ⟨Ly_mw hL rfl, ⟨by rw [mw_o _ _ _ (by decide)]; exact z9, by rw [mw_o _ _ _ (by decide)]; exact z12, by rw [mw_o _ _ _ (by decide)]; exact z14⟩, ⟨mw_s _ _ _ _, by omega, fun i hi => by omega⟩, by rw [mw_o _ _ _ (by decide)]; exact hP, ShI_c (fun b hb => mw_o _ _ _ (by omega)) hU, ShI_c (fun b hb => mw_o _ _ _ (by omega)) hK⟩
theorem rdA_0 : (rdA fstF 129).1 = -4 ∧ ∀ j, j < 154 → (rdA fstF 129).2 j = P0 j := by
  unfold rdA
  rw [rd_c]
  exact ⟨rd_1, fun j hj => rd_2 ⟨j, hj⟩⟩
theorem P0_hi {j : Nat} (hj : 154 ≤ j) : P0 j = 0 := by
  unfold P0
  rw [List.getD_eq_getElem?_getD, List.getElem?_eq_none (show pfL.length ≤ j from hj)]
  rfl
theorem k_86 : ∀ (m n : Nat) (h : mH), n + m = 129 → CI L n fstF P [] [] h → (∀ j, j < 129 → h.2 5 j = fstF j) → ∃ h', B_Tb_init_86 6 (n : Int) h = some h' ∧ CI L 0 fstF P0 [] [] h' ∧ TF h h' ∧ PV P0
  | 0, n, h, e, hc, h5 => by
    have : n = 129 := by omega
    subst this
    have hL := hc.1
    obtain ⟨h1, a1, a2, a3, a4⟩ := c_readAll hc
    obtain ⟨b1, b2⟩ := a4 rdA_0.1
    have eP : (rdA fstF 129).2 = P0 := by
      funext j
      by_cases q : j < 154
      · exact rdA_0.2 j q
      · rw [P0_hi (by omega), ← b1]
        exact a2.2.1.1 j (by omega)
    rw [eP] at b1 b2
    have hz : Zr P0 := fun j hj => P0_hi hj
    obtain ⟨c1, c2⟩ := CI_now a2 hz
    have hcp := c_copyFrom (CI_pg a2) (sh_9 a2.1) a2.2.1.1 a2.2.1.2.1 (by decide)
    rw [b1] at hcp
    have hcp' : F_Pg_copyFrom 11 9 h1 = some (mrow h1 12 P0) := hcp
    refine ⟨mw (mrow h1 12 P0) 7 2 0, ?_, CI_w0 c1, TF_tr a3 (TF_tr c2 (TF_mw _ _ (by decide) (by decide))), b2⟩
    rw [q_Tb_init_86, n_5 hL, Option.bind_some, if_pos (by decide), p_6_0 hL, Option.bind_some, t7, a1, Option.bind_some]
    dsimp only
    rw [p_6_1 a2.1, Option.bind_some, p_6_0 a2.1, Option.bind_some, t7, p_7_0 a2.1, Option.bind_some, t8, p_8_0 a2.1, Option.bind_some, t11, t9', hcp', Option.bind_some, p_6_0 c1.1, Option.bind_some, t7, f_7 c1.1 (by decide), Option.bind_some]
  | m + 1, n, h, e, hc, h5 => by
    have hL := hc.1
    obtain ⟨h1, a1, a2, a3⟩ := c_app hc (by omega) (x := fstF n) rfl
    obtain ⟨h', z1, z2, z3, z4⟩ := k_86 m (n + 1) h1 (by omega) a2 (fun j hj => by rw [a3.2 5 (by decide)]; exact h5 j hj)
    refine ⟨h', ?_, z2, TF_tr a3 z3, z4⟩
    rw [q_Tb_init_86, n_5 hL, Option.bind_some, if_neg (by omega), p_6_0 hL, Option.bind_some, t7, r_5 hL (by omega), Option.bind_some, h5 n (by omega), a1, Option.bind_some]
    dsimp only
    rw [w32_nn n (by omega), z1]
/-- the class is there -/
theorem k_tb (h0 : H0 L f) : ∃ h, F_Tb_init 6 (mnew (bas L, f) 5 (nfld 5)) = some h ∧ CI L 0 fstF P0 [] [] h ∧ h.1 = shp L ∧ (∀ a, a < 6 → h.2 a = f a) ∧ PV P0 := by
  obtain ⟨h1, a1, a2⟩ := a_tb L f
  have hc := AS_CI a2 h0 fstF
  obtain ⟨h', z1, z2, z3, z4⟩ := k_86 129 0 h1 (by decide) hc (fun j hj => by rw [AS_lo a2 (by decide)]; exact h0.2.2 j hj)
  rw [show ((0 : Nat) : Int) = 0 from rfl] at z1
  exact ⟨h', a1.trans z1, z2, z3.1.trans a2.1, fun a ha => (z3.2 a (Or.inl ha)).trans (AS_lo a2 ha), z4⟩
end In

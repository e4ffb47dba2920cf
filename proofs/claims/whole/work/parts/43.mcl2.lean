/-! the class's Machine: tuples, a step -/
theorem w32_id {x : Int} (h0 : -2147483648 ≤ x) (h1 : x < 2147483648) : w32 x = x := by unfold w32; omega
theorem w32_3 {t f : Nat} (ht : t < 1000) (hf : f < 1000) : w32 ((w32 ((t : Int) * 3)) + (f : Int)) = ((3 * t + f : Nat) : Int) := by unfold w32; omega
theorem w32_20 {n : Nat} (h : n < 1000) : w32 (20000 + (n : Int)) = 20000 + (n : Int) := by unfold w32; omega
theorem w32_10 {n : Nat} (h : n < 1000) : w32 (10000 + (n : Int)) = 10000 + (n : Int) := by unfold w32; omega
section Mc
variable {L : Nat} {P : Nat → Int} {s : mSt} {h : mH}
theorem t27 : (27 : Int).toNat = 27 := rfl
theorem t28 : (28 : Int).toNat = 28 := rfl
theorem c_mk33 (hr : MR L P s h) {n : Nat} (hn : n < 12) (x : Int) (y : Int) {f : Nat} (hf : f < 3) : MR L P (sR s, sK s, ru (sH s) (3 * n + f) (-1), sO s, sN s, sA s, sP s) (mw h 28 (3 * n + f) (-1)) ∧ B_Mc_makeTuple_33 22 x y (n : Int) (f : Int) h = B_Mc_makeTuple_33 22 x y (n : Int) ((f + 1 : Nat) : Int) (mw h 28 (3 * n + f) (-1)) := by
  refine ⟨MR_fd hr _, ?_⟩
  have k1 : ¬ 3 ≤ (f : Int) := by omega
  have k2 : (0 : Int) ≤ ((3 * n + f : Nat) : Int) := by omega
  have k3 : ((3 * n + f : Nat) : Int) < 36 := by omega
  have kf : f < 1000 := by omega
  have kn : n < 1000 := by omega
  have e := w32_3 kn kf
  have e1 := w32_nn f kf
  rw [q_Mc_makeTuple_33, if_neg k1, p_22_4 hr.1, Option.bind_some, t28, e, w_28 hr.1 k2 k3, Option.bind_some, tn, e1]
theorem c_make (hr : MR L P s h) (hv : VM P s) (hp : sP s < 1000) {x : Nat} (hx : x < 4) (y : Int) : ∃ h', F_Mc_makeTuple 22 (x : Int) y h = some ((iteP (sN s < 12) ((0 : Int), sSet (sNew s y) x (20000 + sN s)) (3, s)).1, h') ∧ MR L P (iteP (sN s < 12) ((0 : Int), sSet (sNew s y) x (20000 + sN s)) (3, s)).2 h' ∧ MF h h' := by
  have h6 := hr.2.2.2.2.2.2.1
  have hv1 := hv.1
  have k0 : ¬ (sN s : Int) < 0 := by omega
  rw [q_Mc_makeTuple _ _ _ _ (o_22 hr.1), g_22 hr.1 (by decide), Option.bind_some, h6, if_neg k0, Option.bind_some]
  by_cases q : sN s < 12
  · rw [iteP_t q]
    have k1 : (sN s : Int) < 12 := by omega
    have k2 : (0 : Int) ≤ (sN s : Int) := by omega
    have kn : sN s < 1000 := by omega
    have e1 := w32_nn (sN s) kn
    have e2 := w32_20 kn
    have r1 := MR_so hr (j := sN s) y
    obtain ⟨r2, b2⟩ := c_mk33 r1 q (x : Int) y (f := 0) (by decide)
    obtain ⟨r3, b3⟩ := c_mk33 r2 q (x : Int) y (f := 1) (by decide)
    obtain ⟨r4, b4⟩ := c_mk33 r3 q (x : Int) y (f := 2) (by decide)
    have r5 := MR_new hr y
    obtain ⟨h', a1, a2, a3⟩ := c_with r5 hp hx (20000 + sN s)
    refine ⟨h', ?_, a2, MF_tr (MF_mw h y (by decide)) (MF_tr (MF_mw _ _ (by decide)) (MF_tr (MF_mw _ _ (by decide)) (MF_tr (MF_mw _ _ (by decide)) (MF_tr (MF_22 _ _ (by decide)) a3))))⟩
    rw [if_pos k1, Option.bind_some, p_22_3 hr.1, Option.bind_some, t27, w_27 hr.1 k2 k1, Option.bind_some, tn]
    refine b2.trans (b3.trans (b4.trans ?_))
    rw [q_Mc_makeTuple_33, if_pos (by decide), g_22 r4.1 (by decide), Option.bind_some, r4.2.2.2.2.2.2.1, e1, f_22 r4.1 (by decide), Option.bind_some, e2, a1, Option.bind_some]
  · rw [iteP_f q, if_neg (by omega)]
    exact ⟨h, rfl, hr, MF_rf h⟩
theorem mc_prog (hr : MR L P s h) : gfd 1 0 h 22 = some 11 ∧ PgO h 11 ∧ h.2 (11 + 1) = P := ⟨by rw [g_22 hr.1 (by decide), hr.2.1.1], Ly_pg hr.1 (by simp), hr.2.1.2⟩
theorem c_fieldAt (hr : MR L P s h) (hv : VM P s) (hV : Val P) {v : Int} (hw : vv P (sN s) v) {f : Nat} (hf : f < 3) : F_Mc_fieldAt 22 v (f : Int) h = some (iteP (isF P s v f) ((sCell v f : Nat) : Int) (-1), h) ∧ (isF P s v f → sCell v f < 3 * sN s) := by
  have h4L := hV.2.1
  have h4S := hV.1
  have hn := hv.1
  obtain ⟨g1, g2, g3⟩ := mc_prog hr
  by_cases q : 20000 ≤ v
  · obtain ⟨t, ht1, ht2⟩ : ∃ t : Nat, v = 20000 + t ∧ ((t : Int) < pS P ∨ (4 ≤ t ∧ t < sN s)) := by
      rcases hw with z | ⟨l, z1, z2⟩ | z
      · unfold isW at z; omega
      · omega
      · exact z
    obtain ⟨a1, a2⟩ := hv.2.2.2.2 t ht2
    obtain ⟨o, ho⟩ := n_of a1.1
    have t12' : t < 12 := by omega
    have o4 : o < 4 := by omega
    have k1 : ¬ (t : Int) < 0 := by omega
    have k2 : ¬ 12 ≤ (t : Int) := by omega
    have k3 : ¬ (f : Int) < 0 := by omega
    have k4 : (0 : Int) ≤ (t : Int) := by omega
    have k5 : (t : Int) < 12 := by omega
    have ev : (v - 20000).toNat = t := by omega
    have ec : sCell v f = 3 * t + f := by unfold sCell; rw [ev]
    have hF : isF P s v f ↔ (f : Int) < pFn P o := by
      unfold isF
      rw [ev, ho, tn]
      exact ⟨fun z => z.2.2, fun z => ⟨q, by omega, z⟩⟩
    refine ⟨?_, fun _ => by rw [ec]; omega⟩
    have kt : t < 1000 := by omega
    have kf : f < 1000 := by omega
    have e0 : v - 20000 = (t : Int) := by omega
    have k6 : -2147483648 ≤ (t : Int) := by omega
    have k7 : (t : Int) < 2147483648 := by omega
    have e1 : w32 (v - 20000) = (t : Int) := by rw [e0]; exact w32_id k6 k7
    have e2 := w32_3 kt kf
    rw [q_Mc_fieldAt _ _ _ _ (o_22 hr.1), e1, if_neg k1, if_neg k2, if_neg k3, g1, Option.bind_some, p_22_3 hr.1, Option.bind_some, t27, r_27 hr.1 k4 k5, Option.bind_some, tn, hr.2.2.2.2.2.1 t (by omega), ho, t11, c_fields g2 o4, Option.bind_some, g3]
    dsimp only
    by_cases w : (f : Int) < pFn P o
    · rw [if_pos w, iteP_t (hF.mpr w), e2, ec]
    · rw [if_neg w, iteP_f (fun z => w (hF.mp z))]
  · have hv0 : 0 ≤ v := by
      rcases hw with z | ⟨l, z1, z2⟩ | ⟨t, z1, z2⟩
      · exact z.1
      · omega
      · omega
    have hF : ¬ isF P s v f := fun z => q z.1
    refine ⟨?_, fun z => absurd z hF⟩
    have k : v - 20000 < 0 := by omega
    have k6 : -2147483648 ≤ v - 20000 := by omega
    have k7 : v - 20000 < 2147483648 := by omega
    have e := w32_id k6 k7
    rw [q_Mc_fieldAt _ _ _ _ (o_22 hr.1), e, if_pos k, iteP_f hF]
theorem c_mput (hr : MR L P s h) (hv : VM P s) (hV : Val P) (hp : sP s < 1000) {x y z : Nat} (hx : x < 4) (hy : y < 3) (hz : z < 4) : ∃ h', F_Mc_setField 22 (x : Int) (y : Int) (z : Int) h = some ((iteP (isF P s (sR s x) y) ((0 : Int), sNx (sR s, sK s, ru (sH s) (sCell (sR s x) y) (sR s z), sO s, sN s, sA s, sP s)) (2, s)).1, h') ∧ MR L P (iteP (isF P s (sR s x) y) ((0 : Int), sNx (sR s, sK s, ru (sH s) (sCell (sR s x) y) (sR s z), sO s, sN s, sA s, sP s)) (2, s)).2 h' ∧ MF h h' := by
  obtain ⟨f1, f2⟩ := c_fieldAt hr hv hV (hv.2.2.1 x hx) hy
  rw [q_Mc_setField _ _ _ _ _ (o_22 hr.1), c_mreg hr hx, Option.bind_some]
  dsimp only
  rw [f1, Option.bind_some]
  dsimp only
  by_cases q : isF P s (sR s x) y
  · have hc := f2 q
    have hn12 := hv.1
    have k1 : ¬ ((sCell (sR s x) y : Nat) : Int) < 0 := by omega
    have k2 : ((sCell (sR s x) y : Nat) : Int) < 36 := by omega
    have k3 : (0 : Int) ≤ ((sCell (sR s x) y : Nat) : Int) := by omega
    obtain ⟨h', a1, a2, a3⟩ := c_behind (MR_fd hr (j := sCell (sR s x) y) (sR s z)) hp
    rw [iteP_t q, iteP_t q]
    refine ⟨h', ?_, a2, MF_tr (MF_mw h _ (by decide)) a3⟩
    rw [if_neg k1, p_22_4 hr.1, Option.bind_some, t28, n_28 hr.1, Option.bind_some, if_pos k2, Option.bind_some, c_mreg hr hz, Option.bind_some]
    dsimp only
    rw [t28, w_28 hr.1 k3 k2, Option.bind_some, tn, a1, Option.bind_some]
  · rw [iteP_f q, iteP_f q, if_pos (by decide)]
    exact ⟨h, rfl, hr, MF_rf h⟩
theorem c_mget (hr : MR L P s h) (hv : VM P s) (hV : Val P) (hp : sP s < 1000) {x y z : Nat} (hx : x < 4) (hy : y < 4) (hz : z < 3) : ∃ h', F_Mc_getField 22 (x : Int) (y : Int) (z : Int) h = some ((iteP (isF P s (sR s y) z ∧ sH s (sCell (sR s y) z) ≠ -1) ((0 : Int), sSet s x (sH s (sCell (sR s y) z))) (2, s)).1, h') ∧ MR L P (iteP (isF P s (sR s y) z ∧ sH s (sCell (sR s y) z) ≠ -1) ((0 : Int), sSet s x (sH s (sCell (sR s y) z))) (2, s)).2 h' ∧ MF h h' := by
  obtain ⟨f1, f2⟩ := c_fieldAt hr hv hV (hv.2.2.1 y hy) hz
  rw [q_Mc_getField _ _ _ _ _ (o_22 hr.1), c_mreg hr hy, Option.bind_some]
  dsimp only
  rw [f1, Option.bind_some]
  dsimp only
  by_cases q : isF P s (sR s y) z
  · have hc := f2 q
    have hn12 := hv.1
    have k1 : ¬ ((sCell (sR s y) z : Nat) : Int) < 0 := by omega
    have k2 : ((sCell (sR s y) z : Nat) : Int) < 36 := by omega
    have k4 : ¬ 36 ≤ ((sCell (sR s y) z : Nat) : Int) := by omega
    have k3 : (0 : Int) ≤ ((sCell (sR s y) z : Nat) : Int) := by omega
    have e7 := hr.2.2.2.2.1 _ hc
    rw [iteP_t (p := isF P s (sR s y) z) q, if_neg k1, p_22_4 hr.1, Option.bind_some, t28, n_28 hr.1, Option.bind_some, if_neg k4, Option.bind_some, t28, r_28 hr.1 k3 k2, Option.bind_some, tn, e7]
    by_cases w : sH s (sCell (sR s y) z) = -1
    · rw [if_neg (Decidable.not_not.mpr w), iteP_f (fun z => z.2 w)]
      exact ⟨h, rfl, hr, MF_rf h⟩
    · obtain ⟨h', a1, a2, a3⟩ := c_with hr hp hx (sH s (sCell (sR s y) z))
      rw [if_pos w, iteP_t ⟨q, w⟩, Option.bind_some, t28, r_28 hr.1 k3 k2, Option.bind_some, tn, e7, a1, Option.bind_some]
      exact ⟨h', rfl, a2, a3⟩
  · rw [iteP_f (p := isF P s (sR s y) z) q, if_pos (by decide), iteP_f (fun z => q z.1)]
    exact ⟨h, rfl, hr, MF_rf h⟩
/-- a step of the class's Machine -/
theorem c_mstep (hr : MR L P s h) (hv : VM P s) (hV : Val P) (hpk : (sP s : Int) < pK P (sA s)) {c : Int} {x y z : Nat} (e0 : pC P (sA s) (sP s) 0 = c) (e1 : pC P (sA s) (sP s) 1 = x) (e2 : pC P (sA s) (sP s) 2 = y) (e3 : pC P (sA s) (sP s) 3 = z) (hm : mayS (pS P) (pL P) c x y z) :
    ∃ h', F_Mc_step 22 h = some ((stepM P s c x y z).1, h') ∧ MR L P (stepM P s c x y z).2 h' ∧ MF h h' := by
  have h4L := hV.2.1
  have h4S := hV.1
  have hA := hv.2.1.1
  have hK := (hV.2.2.2.2 (sA s) hA).2.2.2.2.1
  have hp : sP s < 1000 := by omega
  have hA4 : sA s < 4 := by omega
  have hP6 : sP s < 6 := by omega
  obtain ⟨g1, g2, g3⟩ := mc_prog hr
  have g7 : gfd 1 7 h 22 = some (sA s : Int) := by rw [g_22 hr.1 (by decide), hr.2.2.2.2.2.2.2.1]
  have g8 : gfd 1 8 h 22 = some (sP s : Int) := by rw [g_22 hr.1 (by decide), hr.2.2.2.2.2.2.2.2]
  have p0 := c_part0 g2 hA4 hP6
  have p1 := c_part1 g2 hA4 hP6
  have p2 := c_part2 g2 hA4 hP6
  have p3 := c_part3 g2 hA4 hP6
  rw [g3, e0] at p0
  rw [g3, e1] at p1
  rw [g3, e2] at p2
  rw [g3, e3] at p3
  rw [q_Mc_step _ _ (o_22 hr.1), g1, Option.bind_some, g7, Option.bind_some, g8, Option.bind_some, t11, p0, Option.bind_some]
  dsimp only
  rw [g1, Option.bind_some, g7, Option.bind_some, g8, Option.bind_some, t11, p1, Option.bind_some]
  dsimp only
  rw [g1, Option.bind_some, g7, Option.bind_some, g8, Option.bind_some, t11, p2, Option.bind_some]
  dsimp only
  rw [g1, Option.bind_some, g7, Option.bind_some, g8, Option.bind_some, t11, p3, Option.bind_some]
  dsimp only
  unfold stepM
  by_cases c0 : c = 0
  · rw [if_pos c0, if_pos c0]
    subst c0
    simp [mayS, chs, oprL] at hm
    obtain ⟨h', a1, a2, a3⟩ := c_with hr hp (d := x) (by omega) (sR s y)
    exact ⟨h', by rw [c_mreg hr (by omega), Option.bind_some]; dsimp only; rw [a1, Option.bind_some], a2, a3⟩
  rw [if_neg c0, if_neg c0]
  by_cases c1 : c = 1
  · rw [if_pos c1, if_pos c1]
    subst c1
    simp [mayS, chs, oprL] at hm
    obtain ⟨h', a1, a2, a3⟩ := c_with hr hp (d := x) (by omega) (y : Int)
    exact ⟨h', by rw [a1, Option.bind_some], a2, a3⟩
  rw [if_neg c1, if_neg c1]
  by_cases c2 : c = 2
  · rw [if_pos c2, if_pos c2]
    subst c2
    simp [mayS, chs, oprL] at hm
    obtain ⟨h', a1, a2, a3⟩ := c_sum hr hp (x := x) (y := y) (by omega) (by omega)
    exact ⟨h', by rw [a1, Option.bind_some], a2, a3⟩
  rw [if_neg c2, if_neg c2]
  by_cases c3 : c = 3
  · rw [if_pos c3, if_pos c3]
    subst c3
    simp [mayS, chs, oprL] at hm
    obtain ⟨h', a1, a2, a3⟩ := c_make hr hv hp (x := x) (by omega) (y : Int)
    exact ⟨h', by rw [a1, Option.bind_some], a2, a3⟩
  rw [if_neg c3, if_neg c3]
  by_cases c4 : c = 4
  · rw [if_pos c4, if_pos c4]
    subst c4
    simp [mayS, chs, oprL] at hm
    obtain ⟨h', a1, a2, a3⟩ := c_mput hr hv hV hp (x := x) (y := y) (z := z) (by omega) (by omega) (by omega)
    exact ⟨h', by rw [a1, Option.bind_some], a2, a3⟩
  rw [if_neg c4, if_neg c4]
  by_cases c5 : c = 5
  · rw [if_pos c5, if_pos c5]
    subst c5
    simp [mayS, chs, oprL] at hm
    obtain ⟨h', a1, a2, a3⟩ := c_mget hr hv hV hp (x := x) (y := y) (z := z) (by omega) (by omega) (by omega)
    exact ⟨h', by rw [a1, Option.bind_some], a2, a3⟩
  rw [if_neg c5, if_neg c5]
  by_cases c6 : c = 6
  · rw [if_pos c6, if_pos c6]
    subst c6
    simp [mayS, chs, oprL] at hm
    obtain ⟨h', a1, a2, a3⟩ := c_mpush hr (sR s x)
    rw [c_mreg hr (by omega), Option.bind_some]
    dsimp only
    rw [a1, Option.bind_some]
    dsimp only
    by_cases q : (sK s).length < 16
    · rw [iteP_t q] at a2
      obtain ⟨h2, b1, b2, b3⟩ := c_behind a2 hp
      rw [b2i_t q, if_neg (by decide), iteP_t q, b1, Option.bind_some]
      exact ⟨h2, rfl, b2, MF_tr a3 b3⟩
    · rw [iteP_f q] at a2
      rw [b2i_f q, if_pos rfl, iteP_f q, a2]
      exact ⟨h, rfl, hr, MF_rf h⟩
  rw [if_neg c6, if_neg c6]
  by_cases c7 : c = 7
  · rw [if_pos c7, if_pos c7]
    subst c7
    simp [mayS, chs, oprL] at hm
    obtain ⟨h', a1, a2, a3⟩ := c_mpop hr hp (x := x) (by omega)
    exact ⟨h', by rw [a1, Option.bind_some], a2, a3⟩
  rw [if_neg c7, if_neg c7]
  by_cases c8 : c = 8
  · rw [if_pos c8, if_pos c8]
    subst c8
    simp [mayS, chs, oprL] at hm
    obtain ⟨h', a1, a2, a3⟩ := c_with hr hp (d := x) (by omega) (10000 + y)
    have e := w32_10 (n := y) (by omega)
    exact ⟨h', by rw [e, a1, Option.bind_some], a2, a3⟩
  rw [if_neg c8, if_neg c8, q_Mc_leave _ _ _ _ _ (o_22 hr.1)]
  by_cases c9 : c = 9
  · rw [if_pos c9, if_pos c9]
    obtain ⟨h', a1, a2, a3⟩ := c_goOnAt hr x
    exact ⟨h', by rw [a1, Option.bind_some, Option.bind_some], a2, a3⟩
  rw [if_neg c9, if_neg c9]
  by_cases c10 : c = 10
  · rw [if_pos c10, if_pos c10]
    subst c10
    simp [mayS, chs, oprL] at hm
    rw [c_mreg hr (r := x) (by omega), Option.bind_some]
    dsimp only
    rw [c_isW, Option.bind_some]
    dsimp only
    by_cases q : isW (sR s x)
    · rw [b2i_t q, if_pos (by decide), iteP_t q, c_mreg hr (r := x) (by omega), Option.bind_some]
      dsimp only
      by_cases w : sR s x = 0
      · obtain ⟨h', a1, a2, a3⟩ := c_behind hr hp
        rw [if_pos w, iteP_t w, a1, Option.bind_some, Option.bind_some]
        exact ⟨h', rfl, a2, a3⟩
      · obtain ⟨h', a1, a2, a3⟩ := c_goOnAt hr y
        rw [if_neg w, iteP_f w, a1, Option.bind_some, Option.bind_some]
        exact ⟨h', rfl, a2, a3⟩
    · rw [b2i_f q, if_neg (by decide), iteP_f q, Option.bind_some]
      exact ⟨h, rfl, hr, MF_rf h⟩
  rw [if_neg c10, if_neg c10]
  by_cases c11 : c = 11
  · rw [if_pos c11, if_pos c11]
    subst c11
    simp [mayS, chs, oprL] at hm
    have t25 : (25 : Int).toNat = 25 := rfl
    have e := w32_10 (n := y) (by omega)
    obtain ⟨h', a1, a2, a3⟩ := c_goOnAt (MR_reg hr (x := 3) (10000 + y)) x
    refine ⟨h', ?_, a2, MF_tr (MF_mw h _ (by decide)) a3⟩
    rw [p_22_1 hr.1, Option.bind_some, t25, e, w_25 hr.1 (by decide) (by decide), Option.bind_some, show (3 : Int).toNat = 3 from rfl, a1, Option.bind_some, Option.bind_some]
  rw [if_neg c11, if_neg c11]
  by_cases c12 : c = 12
  · rw [if_pos c12, if_pos c12]
    subst c12
    simp [mayS, chs, oprL] at hm
    rw [c_mreg hr (r := x) (by omega), Option.bind_some]
    dsimp only
    rw [c_isB, Option.bind_some]
    dsimp only
    by_cases q : isB (sR s x)
    · rw [b2i_t q, if_neg (by decide), iteP_t q, c_mreg hr (r := x) (by omega), Option.bind_some]
      dsimp only
      have k5 : sR s x - 10000 = (((sR s x - 10000).toNat : Nat) : Int) := by unfold isB at q; omega
      have k6 : -2147483648 ≤ sR s x - 10000 := by unfold isB at q; omega
      have k7 : sR s x - 10000 < 2147483648 := by unfold isB at q; omega
      have e : w32 (sR s x - 10000) = (((sR s x - 10000).toNat : Nat) : Int) := (w32_id k6 k7).trans k5
      obtain ⟨h', a1, a2, a3⟩ := c_goOnAt hr (sR s x - 10000).toNat
      rw [e, a1, Option.bind_some, Option.bind_some]
      exact ⟨h', rfl, a2, a3⟩
    · rw [b2i_f q, if_pos rfl, iteP_f q, Option.bind_some]
      exact ⟨h, rfl, hr, MF_rf h⟩
  rw [if_neg c12, if_neg c12, show F_Mc_register 22 0 h = _ from c_mreg hr (r := 0) (by decide), Option.bind_some]
  dsimp only
  rw [c_isW, Option.bind_some]
  dsimp only
  by_cases q : isW (sR s 0)
  · rw [b2i_t q, if_neg (by decide), iteP_t q, Option.bind_some]
    exact ⟨h, rfl, hr, MF_rf h⟩
  · rw [b2i_f q, if_pos rfl, iteP_f q, Option.bind_some]
    exact ⟨h, rfl, hr, MF_rf h⟩
end Mc

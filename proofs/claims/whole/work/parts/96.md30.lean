/-! THE MODEL'S CONSTRUCTOR: what it tells -/
def AM (L : Nat) (f1 : Nat → Nat → Int) (ws : List (Nat × Nat × Int)) (h : mH) : Prop := LyM L h ∧ (∀ a j, 43 ≤ a → a < 61 → h.2 a j = wv ws a j 0) ∧ ∀ a, a < 43 → h.2 a = f1 a
section Am
variable {L : Nat} {f1 : Nat → Nat → Int} {ws : List (Nat × Nat × Int)} {h : mH}
theorem AM_w (ha : AM L f1 ws h) {a j : Nat} (v : Int) (h1 : 43 ≤ a) (h2 : ptm a j = none) : AM L f1 ((a, j, v) :: ws) (mw h a j v) := by
  obtain ⟨a1, a2, a3⟩ := ha
  refine ⟨LyM_mw a1 h2, fun b k h3 h4 => ?_, fun b hb => by rw [mw_o _ _ _ (by omega)]; exact a3 b hb⟩
  show (if b = a ∧ k = j then v else h.2 b k) = if b = a ∧ k = j then v else wv ws b k 0
  rw [a2 b k h3 h4]
theorem AM_z (ha : AM L f1 ws h) {k : Nat} (hz : wv ws 52 k 0 = 0) : AM L f1 ws (mw h 52 k 0) := by
  obtain ⟨a1, a2, a3⟩ := ha
  refine ⟨LyM_mw a1 rfl, fun b i h3 h4 => ?_, fun b hb => by rw [mw_o _ _ _ (by omega)]; exact a3 b hb⟩
  show (if b = 52 ∧ i = k then 0 else h.2 b i) = wv ws b i 0
  by_cases q : b = 52 ∧ i = k
  · rw [if_pos q, q.1, q.2, hz]
  · rw [if_neg q, a2 b i h3 h4]
theorem k_bg17 (hz : ∀ k, wv ws 52 k 0 = 0) : ∀ (m k : Nat) (h : mH), k + m = 120 → AM L f1 ws h → ∃ h', B_Md_begins_17 43 (k : Int) h = some h' ∧ AM L f1 ws h'
  | 0, k, h, e, ha => by
    have : k = 120 := by omega
    subst this
    exact ⟨h, by rw [q_Md_begins_17, if_pos (by decide)], ha⟩
  | m + 1, k, h, e, ha => by
    obtain ⟨h', z1, z2⟩ := k_bg17 hz m (k + 1) (mw h 52 k 0) (by omega) (AM_z ha (hz k))
    refine ⟨h', ?_, z2⟩
    rw [q_Md_begins_17, if_neg (by omega), p_43_12 ha.1, Option.bind_some, st52 ha.1 (by omega), Option.bind_some, w32_nn k (by omega), z1]
theorem k_begins (ha : AM L f1 ws h) (hz : ∀ k, wv ws 52 k 0 = 0) : ∃ h', F_Md_begins 43 h = some h' ∧ AM L f1 ((43, 13, 0) :: (43, 9, 0) :: (43, 6, 0) :: ws) h' := by
  have a1 := AM_w ha (a := 43) (j := 6) 0 (by decide) rfl
  have a2 := AM_w a1 (a := 43) (j := 9) 0 (by decide) rfl
  have a3 := AM_w a2 (a := 43) (j := 13) 0 (by decide) rfl
  obtain ⟨h', z1, z2⟩ := k_bg17 (ws := (43, 13, 0) :: (43, 9, 0) :: (43, 6, 0) :: ws) (fun k => by
    show (if 52 = 43 ∧ k = 13 then (0 : Int) else if 52 = 43 ∧ k = 9 then 0 else if 52 = 43 ∧ k = 6 then 0 else wv ws 52 k 0) = 0
    rw [if_neg (by omega), if_neg (by omega), if_neg (by omega)]
    exact hz k) 120 0 _ (by decide) a3
  refine ⟨h', ?_, z2⟩
  rw [q_Md_begins _ _ (o_43 ha.1), f_43 ha.1 (by decide), Option.bind_some, f_43 a1.1 (by decide), Option.bind_some, f_43 a2.1 (by decide), Option.bind_some]
  exact z1
theorem k_ts (ha : AM L f1 ws h) {t : Nat} (ht : t < 4) (h6 : wv ws 43 6 0 = (t : Int)) {fig w v0 v1 : Int} (e1 : w32 ((Int.tmod fig 10) + 1) = v1) (e2 : w32 (Int.tdiv fig 10) = w) (e3 : w32 ((Int.tmod w 10) + 1) = v0) :
    ∃ h', F_Md_tellsSort 43 2 fig h = some h' ∧ AM L f1 ((43, 6, ((t + 1 : Nat) : Int)) :: (49, 3 * t + 0, v0) :: (49, 3 * t + 1, v1) :: (48, t, 2) :: ws) h' := by
  have hL := ha.1
  have a1 := AM_w ha (a := 48) (j := t) 2 (by decide) rfl
  have a2 := AM_w a1 (a := 49) (j := 3 * t + 1) v1 (by decide) rfl
  have a3 := AM_w a2 (a := 49) (j := 3 * t + 0) v0 (by decide) rfl
  have a4 := AM_w a3 (a := 43) (j := 6) ((t + 1 : Nat) : Int) (by decide) rfl
  have c0 : h.2 43 6 = (t : Int) := by rw [ha.2.1 43 6 (by decide) (by decide)]; exact h6
  have i1 : w32 ((w32 (3 * (t : Int))) + 1) = ((3 * t + 1 : Nat) : Int) := ix5 (i := 1) ht (by decide)
  have i0 : w32 ((w32 (3 * (t : Int))) + 0) = ((3 * t + 0 : Nat) : Int) := ix5 (i := 0) ht (by decide)
  have k1 : w32 (2 - 1) = 1 := by decide
  have k2 : w32 (1 + (-1)) = 0 := by decide
  have k3 : w32 (0 + (-1)) = -1 := by decide
  have q1 : 3 * t + 1 < 12 := by clear i1 i0; omega
  have q0 : 3 * t + 0 < 12 := by clear i1 i0; omega
  have t1 : t < 1000 := by clear i1 i0; omega
  have g1 : gfd 6 6 (mw h 48 t 2) 43 = some (t : Int) := by rw [g_43 a1.1 (by decide), mw_o _ _ _ (by decide), c0]
  have g2 : gfd 6 6 (mw (mw h 48 t 2) 49 (3 * t + 1) v1) 43 = some (t : Int) := by rw [g_43 a2.1 (by decide), mw_o _ _ _ (by decide), mw_o _ _ _ (by decide), c0]
  have g3 : gfd 6 6 (mw (mw (mw h 48 t 2) 49 (3 * t + 1) v1) 49 (3 * t + 0) v0) 43 = some (t : Int) := by rw [g_43 a3.1 (by decide), mw_o _ _ _ (by decide), mw_o _ _ _ (by decide), mw_o _ _ _ (by decide), c0]
  refine ⟨_, ?_, a4⟩
  rw [q_Md_tellsSort _ _ _ _ (o_43 hL), p_43_7 hL, Option.bind_some, g_43 hL (by decide), Option.bind_some, c0, st48 hL ht, Option.bind_some, k1]
  rw [q_Md_tellsSort_17, if_neg (by decide), p_43_8 a1.1, Option.bind_some, g1, Option.bind_some, i1, e1, st49 a1.1 q1, Option.bind_some, e2, k2]
  rw [q_Md_tellsSort_17, if_neg (by decide), p_43_8 a2.1, Option.bind_some, g2, Option.bind_some, i0, e3, st49 a2.1 q0, Option.bind_some, k3]
  rw [q_Md_tellsSort_17, if_pos (by decide), g3, Option.bind_some, w32_nn t t1, f_43 a3.1 (by decide), Option.bind_some]
theorem k_tl (ha : AM L f1 ws h) {l : Nat} (hl : l < 4) (h9 : wv ws 43 9 0 = (l : Int)) {w0 w1 w2 w3 d0 d1 d2 d3 : Int} (many und : Int) (e1 : Int.tmod w0 10 = d3) (e2 : w32 (Int.tdiv w0 10) = w1) (e3 : Int.tmod w1 10 = d2) (e4 : w32 (Int.tdiv w1 10) = w2) (e5 : Int.tmod w2 10 = d1) (e6 : w32 (Int.tdiv w2 10) = w3) (e7 : Int.tmod w3 10 = d0) :
    ∃ h', F_Md_tellsLabel 43 w0 many und h = some h' ∧ AM L f1 ((43, 9, ((l + 1 : Nat) : Int)) :: (50, l, many) :: (52, 0 + 30 * l + 4, und) :: (52, 0 + 30 * l + 0, d0) :: (52, 0 + 30 * l + 1, d1) :: (52, 0 + 30 * l + 2, d2) :: (52, 0 + 30 * l + 3, d3) :: ws) h' := by
  have hL := ha.1
  have a1 := AM_w ha (a := 52) (j := 0 + 30 * l + 3) d3 (by decide) rfl
  have a2 := AM_w a1 (a := 52) (j := 0 + 30 * l + 2) d2 (by decide) rfl
  have a3 := AM_w a2 (a := 52) (j := 0 + 30 * l + 1) d1 (by decide) rfl
  have a4 := AM_w a3 (a := 52) (j := 0 + 30 * l + 0) d0 (by decide) rfl
  have a5 := AM_w a4 (a := 52) (j := 0 + 30 * l + 4) und (by decide) rfl
  have a6 := AM_w a5 (a := 50) (j := l) many (by decide) rfl
  have a7 := AM_w a6 (a := 43) (j := 9) ((l + 1 : Nat) : Int) (by decide) rfl
  have c0 : h.2 43 9 = (l : Int) := by rw [ha.2.1 43 9 (by decide) (by decide)]; exact h9
  have i3 : w32 ((w32 (30 * (l : Int))) + 3) = ((0 + 30 * l + 3 : Nat) : Int) := ix2 (c := 3) hl (by decide)
  have i2 : w32 ((w32 (30 * (l : Int))) + 2) = ((0 + 30 * l + 2 : Nat) : Int) := ix2 (c := 2) hl (by decide)
  have i1 : w32 ((w32 (30 * (l : Int))) + 1) = ((0 + 30 * l + 1 : Nat) : Int) := ix2 (c := 1) hl (by decide)
  have i0 : w32 ((w32 (30 * (l : Int))) + 0) = ((0 + 30 * l + 0 : Nat) : Int) := ix2 (c := 0) hl (by decide)
  have i4 : w32 ((w32 (30 * (l : Int))) + 4) = ((0 + 30 * l + 4 : Nat) : Int) := ix2 (c := 4) hl (by decide)
  have k3 : w32 (3 + (-1)) = 2 := by decide
  have k2 : w32 (2 + (-1)) = 1 := by decide
  have k1 : w32 (1 + (-1)) = 0 := by decide
  have k0 : w32 (0 + (-1)) = -1 := by decide
  have q3 : 0 + 30 * l + 3 < 120 := by clear i0 i1 i2 i3 i4; omega
  have q2 : 0 + 30 * l + 2 < 120 := by clear i0 i1 i2 i3 i4; omega
  have q1 : 0 + 30 * l + 1 < 120 := by clear i0 i1 i2 i3 i4; omega
  have q0 : 0 + 30 * l + 0 < 120 := by clear i0 i1 i2 i3 i4; omega
  have q4 : 0 + 30 * l + 4 < 120 := by clear i0 i1 i2 i3 i4; omega
  have l1 : l < 1000 := by clear i0 i1 i2 i3 i4; omega
  generalize hb1 : mw h 52 (0 + 30 * l + 3) d3 = b1 at a1 a2 a3 a4 a5 a6 a7
  generalize hb2 : mw b1 52 (0 + 30 * l + 2) d2 = b2 at a2 a3 a4 a5 a6 a7
  generalize hb3 : mw b2 52 (0 + 30 * l + 1) d1 = b3 at a3 a4 a5 a6 a7
  generalize hb4 : mw b3 52 (0 + 30 * l + 0) d0 = b4 at a4 a5 a6 a7
  generalize hb5 : mw b4 52 (0 + 30 * l + 4) und = b5 at a5 a6 a7
  generalize hb6 : mw b5 50 l many = b6 at a6 a7
  have g1 : gfd 6 9 b1 43 = some (l : Int) := by rw [g_43 a1.1 (by decide), ← hb1, mw_o _ _ _ (by decide), c0]
  have g2 : gfd 6 9 b2 43 = some (l : Int) := by rw [g_43 a2.1 (by decide), ← hb2, mw_o _ _ _ (by decide), ← hb1, mw_o _ _ _ (by decide), c0]
  have g3 : gfd 6 9 b3 43 = some (l : Int) := by rw [g_43 a3.1 (by decide), ← hb3, mw_o _ _ _ (by decide), ← hb2, mw_o _ _ _ (by decide), ← hb1, mw_o _ _ _ (by decide), c0]
  have g4 : gfd 6 9 b4 43 = some (l : Int) := by rw [g_43 a4.1 (by decide), ← hb4, mw_o _ _ _ (by decide), ← hb3, mw_o _ _ _ (by decide), ← hb2, mw_o _ _ _ (by decide), ← hb1, mw_o _ _ _ (by decide), c0]
  have g5 : gfd 6 9 b5 43 = some (l : Int) := by rw [g_43 a5.1 (by decide), ← hb5, mw_o _ _ _ (by decide), ← hb4, mw_o _ _ _ (by decide), ← hb3, mw_o _ _ _ (by decide), ← hb2, mw_o _ _ _ (by decide), ← hb1, mw_o _ _ _ (by decide), c0]
  have g6 : gfd 6 9 b6 43 = some (l : Int) := by rw [g_43 a6.1 (by decide), ← hb6, mw_o _ _ _ (by decide), ← hb5, mw_o _ _ _ (by decide), ← hb4, mw_o _ _ _ (by decide), ← hb3, mw_o _ _ _ (by decide), ← hb2, mw_o _ _ _ (by decide), ← hb1, mw_o _ _ _ (by decide), c0]
  refine ⟨_, ?_, a7⟩
  rw [q_Md_tellsLabel _ _ _ _ _ (o_43 hL)]
  rw [q_Md_tellsLabel_6, if_neg (by decide), p_43_12 hL, Option.bind_some, g_43 hL (by decide), Option.bind_some, c0, i3, e1, st52 hL q3, Option.bind_some, hb1, e2, k3]
  rw [q_Md_tellsLabel_6, if_neg (by decide), p_43_12 a1.1, Option.bind_some, g1, Option.bind_some, i2, e3, st52 a1.1 q2, Option.bind_some, hb2, e4, k2]
  rw [q_Md_tellsLabel_6, if_neg (by decide), p_43_12 a2.1, Option.bind_some, g2, Option.bind_some, i1, e5, st52 a2.1 q1, Option.bind_some, hb3, e6, k1]
  rw [q_Md_tellsLabel_6, if_neg (by decide), p_43_12 a3.1, Option.bind_some, g3, Option.bind_some, i0, e7, st52 a3.1 q0, Option.bind_some, hb4, k0]
  rw [q_Md_tellsLabel_6, if_pos (by decide), p_43_12 a4.1, Option.bind_some, g4, Option.bind_some, i4, st52 a4.1 q4, Option.bind_some, hb5, p_43_10 a5.1, Option.bind_some, g5, Option.bind_some, st50 a5.1 hl, Option.bind_some, hb6, g6, Option.bind_some, w32_nn l l1, f_43 a6.1 (by decide), Option.bind_some]
theorem k_te (ha : AM L f1 ws h) {l k : Nat} (hl : l < 4) (hk : k < 6) (h9 : wv ws 43 9 0 = ((l + 1 : Nat) : Int)) (h5 : wv ws 52 (0 + 30 * l + 5) 0 = (k : Int)) (c x y z : Int) :
    ∃ h', F_Md_tells 43 c x y z h = some h' ∧ AM L f1 ((52, 0 + 30 * l + 5, ((k + 1 : Nat) : Int)) :: (52, 0 + 30 * l + 6 + 4 * k + 3, z) :: (52, 0 + 30 * l + 6 + 4 * k + 2, y) :: (52, 0 + 30 * l + 6 + 4 * k + 1, x) :: (52, 0 + 30 * l + 6 + 4 * k, c) :: ws) h' := by
  refine ⟨_, m_tells ha.1 hl hk (by rw [ha.2.1 43 9 (by decide) (by decide)]; exact h9) (by rw [ha.2.1 52 _ (by decide) (by decide)]; exact h5) c x y z, LyM_row ha.1 (fun j => rfl), fun a j h1 h2 => ?_, fun a h1 => by rw [mrow_o _ _ (by omega)]; exact ha.2.2 a h1⟩
  by_cases q : a = 52
  · subst q
    rw [mrow_s]
    unfold wrI
    show (if j = _ then _ else if j = _ then _ else if j = _ then _ else if j = _ then _ else if j = _ then _ else h.2 52 j) = if 52 = 52 ∧ j = _ then _ else if 52 = 52 ∧ j = _ then _ else if 52 = 52 ∧ j = _ then _ else if 52 = 52 ∧ j = _ then _ else if 52 = 52 ∧ j = _ then _ else wv ws 52 j 0
    simp only [true_and, ha.2.1 52 j (by decide) (by decide)]
  · rw [mrow_o _ _ q]
    show h.2 a j = if a = 52 ∧ j = _ then _ else if a = 52 ∧ j = _ then _ else if a = 52 ∧ j = _ then _ else if a = 52 ∧ j = _ then _ else if a = 52 ∧ j = _ then _ else wv ws a j 0
    rw [if_neg (fun z => q z.1), if_neg (fun z => q z.1), if_neg (fun z => q z.1), if_neg (fun z => q z.1), if_neg (fun z => q z.1)]
    exact ha.2.1 a j h1 h2
end Am

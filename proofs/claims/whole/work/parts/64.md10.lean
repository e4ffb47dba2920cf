/-! THE MODEL: put, want, below, undo, back -/
section Md
variable {L n : Nat} {T P : Nat → Int} {U K : List (Nat → Int)} {h : mH}
theorem Sl_at {f Q : Nat → Int} {b l c : Nat} (hs : Sl f b Q) (hl : l < 4) (hc : c < 30) : f (b + 30 * l + c) = Q (qO l c) := Sl_u.mp hs l c hl hc
theorem Sl_pc {f Q : Nat → Int} {b l k p : Nat} (hs : Sl f b Q) (hl : l < 4) (hk : k < 6) (hp : p < 4) : f (b + 30 * l + 6 + 4 * k + p) = pC Q l k p := by
  have := Sl_at hs hl (c := 6 + (4 * k + p)) (by omega)
  rw [qO_c rfl] at this
  unfold pC
  rw [show b + 30 * l + 6 + 4 * k + p = b + 30 * l + (6 + (4 * k + p)) by omega, this, show 28 + 34 * l + (4 * k + p) = 28 + 34 * l + 4 * k + p by omega]
theorem m_put96 (hm : MI L n T P U K h) (hv : Val P) {l k : Nat} (hl : l < 4) (hk : k < 6) (c x y z : Int) : ∃ h', B_Md_put_96 43 (l : Int) (k : Int) c x y z ((0 + 30 * l + 6 + 4 * k : Nat) : Int) h = some (pC P l k 0, h') ∧ MI L n T (insS P l k c x y z) ((P :: U).take 8) K h' ∧ MFm h h' := by
  obtain ⟨h1, a1, a2, a3⟩ := m_known hm
  have L1 := a2.1
  have s1 := a2.2.2.2.1
  have q0 : 0 + 30 * l + 6 + 4 * k < 1440 := by omega
  have hw := m_writes L1 (b := 0) (by decide) hl hk c x y z
  rw [show ((0 : Nat) : Int) = 0 from rfl] at hw
  have hp := Sl_pc s1 hl hk (p := 0) (by decide)
  rw [Nat.add_zero] at hp
  obtain ⟨m1, m2⟩ := MI_now a2 hv (St_ins hl hk c x y z) (Sl_wr s1 hk c x y z) (fun j h1 h2 => wrI_o c x y z (by omega))
  refine ⟨_, ?_, m1, MFm_tr a3 m2⟩
  rw [q_Md_put_96, a1, Option.bind_some, p_43_14 L1, Option.bind_some, ld53 L1 q0, Option.bind_some, hw, Option.bind_some, hp]
theorem m_put (hm : MI L n T P U K h) (hv : Val P) (l k c x y z : Int) : ∃ h', F_Md_put 43 l k c x y z h = some ((putA P l k c x y z).1, h') ∧ MI L n T (actN P U (putA P l k c x y z).2).1 (actN P U (putA P l k c x y z).2).2 K h' ∧ MFm h h' := by
  obtain ⟨hL, -, hS, h0, -⟩ := id hm
  have v1 := hv.1
  have v2 := hv.2.1
  unfold putA
  rw [q_Md_put _ _ _ _ _ _ _ _ (o_43 hL), m_isCode hL hS h0 hv, Option.bind_some]
  dsimp only
  by_cases q : hasI P l k
  · rw [b2i_t q, if_neg (by decide), g_43 hL (by decide), Option.bind_some, g_43 hL (by decide), Option.bind_some, hS.1, hS.2.1, m_may c x y z v1 (by omega), Option.bind_some]
    dsimp only
    by_cases r : mayS (pS P) (pL P) c x y z
    · rw [b2i_t r, if_pos (by decide), iteP_t (p := hasI P l k ∧ mayS (pS P) (pL P) c x y z) ⟨q, r⟩]
      obtain ⟨m, rfl⟩ := n_of q.1.1
      obtain ⟨i, rfl⟩ := n_of q.2.1
      have q2 := q.2.2
      rw [tn] at q2
      have m4 : m < 4 := by have := q.1.2; omega
      have hk := (hv.2.2.2.2 m q.1.2).2.2.2.2.1
      have i6 : i < 6 := by omega
      rw [tn, tn]
      have hs := m_spot (b := 0) (by decide) m4 (Nat.le_of_lt i6) h
      rw [show ((0 : Nat) : Int) = 0 from rfl] at hs
      have p0 : 0 + 30 * m + 6 + 4 * i < 1440 := by omega
      have p1 : 0 + 30 * m + 6 + 4 * i + 1 < 1440 := by omega
      have p2 : 0 + 30 * m + 6 + 4 * i + 2 < 1440 := by omega
      have p3 : 0 + 30 * m + 6 + 4 * i + 3 < 1440 := by omega
      have pp : 0 + 30 * m + 6 + 4 * i < 10000 := by omega
      have c0 := Sl_pc h0 m4 i6 (p := 0) (by decide)
      rw [Nat.add_zero] at c0
      have c1 := Sl_pc h0 m4 i6 (p := 1) (by decide)
      have c2 := Sl_pc h0 m4 i6 (p := 2) (by decide)
      have c3 := Sl_pc h0 m4 i6 (p := 3) (by decide)
      obtain ⟨h', z1, z2, z3⟩ := m_put96 hm hv m4 i6 c x y z
      have e1 : w32 (((0 + 30 * m + 6 + 4 * i : Nat) : Int) + 1) = ((0 + 30 * m + 6 + 4 * i + 1 : Nat) : Int) := ix1 (c := 1) pp (by decide)
      have e2 : w32 (((0 + 30 * m + 6 + 4 * i : Nat) : Int) + 2) = ((0 + 30 * m + 6 + 4 * i + 2 : Nat) : Int) := ix1 (c := 2) pp (by decide)
      have e3 : w32 (((0 + 30 * m + 6 + 4 * i : Nat) : Int) + 3) = ((0 + 30 * m + 6 + 4 * i + 3 : Nat) : Int) := ix1 (c := 3) pp (by decide)
      rw [hs, Option.bind_some]
      dsimp only
      rw [p_43_14 hL, Option.bind_some, ld53 hL p0, Option.bind_some, c0]
      by_cases w0 : pC P m i 0 = c
      · rw [if_neg (Decidable.not_not.mpr w0), Option.bind_some, e1, ld53 hL p1, Option.bind_some, c1]
        by_cases w1 : pC P m i 1 = x
        · rw [if_neg (Decidable.not_not.mpr w1), Option.bind_some, e2, ld53 hL p2, Option.bind_some, c2]
          by_cases w2 : pC P m i 2 = y
          · rw [if_neg (Decidable.not_not.mpr w2), Option.bind_some, e3, ld53 hL p3, Option.bind_some, c3]
            by_cases w3 : pC P m i 3 = z
            · rw [if_neg (Decidable.not_not.mpr w3), iteP_t ⟨w0, w1, w2, w3⟩]
              exact ⟨h, rfl, hm, MFm_rf h⟩
            · rw [if_pos w3, iteP_f (fun t => w3 t.2.2.2)]
              exact ⟨h', z1, z2, z3⟩
          · rw [if_pos w2, iteP_f (fun t => w2 t.2.2.1)]
            exact ⟨h', z1, z2, z3⟩
        · rw [if_pos w1, iteP_f (fun t => w1 t.2.1)]
          exact ⟨h', z1, z2, z3⟩
      · rw [if_pos w0, iteP_f (fun t => w0 t.1)]
        exact ⟨h', z1, z2, z3⟩
    · rw [b2i_f r, if_neg (by decide), iteP_f (p := hasI P l k ∧ mayS (pS P) (pL P) c x y z) (fun t => r t.2)]
      exact ⟨h, rfl, hm, MFm_rf h⟩
  · rw [b2i_f q, if_pos rfl, iteP_f (p := hasI P l k ∧ mayS (pS P) (pL P) c x y z) (fun t => q t.1)]
    exact ⟨h, rfl, hm, MFm_rf h⟩
theorem m_want (hm : MI L n T P U K h) (hv : Val P) (l r t : Int) : ∃ h', F_Md_want 43 l r t h = some ((wantA P l r t).1, h') ∧ MI L n T (actN P U (wantA P l r t).2).1 (actN P U (wantA P l r t).2).2 K h' ∧ MFm h h' := by
  obtain ⟨hL, -, hS, h0, -⟩ := id hm
  have v2 := hv.2.1
  unfold wantA
  rw [q_Md_want _ _ _ _ _ (o_43 hL), m_isLabel hL hS (by omega), Option.bind_some]
  dsimp only
  by_cases q : hasL P l
  · rw [b2i_t q, if_neg (by decide), c_in, Option.bind_some]
    dsimp only
    by_cases w : 0 ≤ r ∧ r ≤ 3
    · rw [b2i_t w, if_neg (by decide), m_isType hL hS hv, Option.bind_some]
      dsimp only
      by_cases y : tyOk P t
      · rw [b2i_t y, if_pos (by decide), iteP_t (p := hasL P l ∧ (0 ≤ r ∧ r < 4) ∧ tyOk P t) ⟨q, ⟨w.1, by omega⟩, y⟩]
        obtain ⟨m, rfl⟩ := n_of q.1
        obtain ⟨i, rfl⟩ := n_of w.1
        have m4 : m < 4 := by have := q.2; omega
        have i4 : i < 4 := by omega
        have i30 : i < 30 := by omega
        have p0 : 0 + 30 * m + i < 1440 := by omega
        have c0 := (h0 m m4).1 i i4
        rw [tn, tn, p_43_14 hL, Option.bind_some, ix2 m4 i30, ld53 hL p0, Option.bind_some, c0]
        by_cases e : pW P m i = t
        · rw [if_neg (Decidable.not_not.mpr e), iteP_t e]
          exact ⟨h, rfl, hm, MFm_rf h⟩
        · rw [if_pos e, iteP_f e]
          obtain ⟨h1, a1, a2, a3⟩ := m_known hm
          have L1 := a2.1
          have s1 := a2.2.2.2.1
          have c1 := (s1 m m4).1 i i4
          obtain ⟨m1, m2⟩ := MI_now a2 hv (St_want m4 i4 t) (Sl_ru s1 i30 rfl (qO_r i4).symm t) (fun j h1 h2 => ru_d _ _ (by omega))
          refine ⟨_, ?_, m1, MFm_tr a3 m2⟩
          rw [a1, Option.bind_some, p_43_14 L1, Option.bind_some, ld53 L1 p0, Option.bind_some, Option.bind_some, st53 L1 p0, Option.bind_some, c1]
      · rw [b2i_f y, if_neg (by decide), iteP_f (p := hasL P l ∧ (0 ≤ r ∧ r < 4) ∧ tyOk P t) (fun z => y z.2.2)]
        exact ⟨h, rfl, hm, MFm_rf h⟩
    · rw [b2i_f w, if_pos rfl, iteP_f (p := hasL P l ∧ (0 ≤ r ∧ r < 4) ∧ tyOk P t) (fun z => w ⟨z.2.1.1, by have := z.2.1.2; omega⟩)]
      exact ⟨h, rfl, hm, MFm_rf h⟩
  · rw [b2i_f q, if_pos rfl, iteP_f (p := hasL P l ∧ (0 ≤ r ∧ r < 4) ∧ tyOk P t) (fun z => q z.1)]
    exact ⟨h, rfl, hm, MFm_rf h⟩
theorem m_below (hm : MI L n T P U K h) (hv : Val P) (l b : Int) : ∃ h', F_Md_below 43 l b h = some ((belowA P l b).1, h') ∧ MI L n T (actN P U (belowA P l b).2).1 (actN P U (belowA P l b).2).2 K h' ∧ MFm h h' := by
  obtain ⟨hL, -, hS, h0, -⟩ := id hm
  have v2 := hv.2.1
  unfold belowA
  rw [q_Md_below _ _ _ _ (o_43 hL), m_isLabel hL hS (by omega), Option.bind_some]
  dsimp only
  by_cases q : hasL P l
  · rw [b2i_t q, if_neg (by decide), c_in, Option.bind_some]
    dsimp only
    by_cases w : 0 ≤ b ∧ b ≤ 1
    · rw [b2i_t w, if_pos (by decide), iteP_t (p := hasL P l ∧ 0 ≤ b ∧ b ≤ 1) ⟨q, w⟩]
      obtain ⟨m, rfl⟩ := n_of q.1
      have m4 : m < 4 := by have := q.2; omega
      have p0 : 0 + 30 * m + 4 < 1440 := by omega
      have e4 : w32 ((w32 (30 * (m : Int))) + 4) = ((0 + 30 * m + 4 : Nat) : Int) := ix2 (c := 4) m4 (by decide)
      have c0 := (h0 m m4).2.1
      rw [tn, p_43_14 hL, Option.bind_some, e4, ld53 hL p0, Option.bind_some, c0]
      by_cases e : pO P m = b
      · rw [if_neg (Decidable.not_not.mpr e), iteP_t e]
        exact ⟨h, rfl, hm, MFm_rf h⟩
      · rw [if_pos e, iteP_f e]
        obtain ⟨h1, a1, a2, a3⟩ := m_known hm
        have L1 := a2.1
        have s1 := a2.2.2.2.1
        obtain ⟨m1, m2⟩ := MI_now a2 hv (St_open m4 b) (Sl_ru s1 (l := m) (c := 4) (by decide) rfl (qO_4 m).symm b) (fun j h1 h2 => ru_d _ _ (by clear e4; omega))
        refine ⟨_, ?_, m1, MFm_tr a3 m2⟩
        rw [a1, Option.bind_some, p_43_14 L1, Option.bind_some, st53 L1 p0, Option.bind_some]
    · rw [b2i_f w, if_neg (by decide), iteP_f (p := hasL P l ∧ 0 ≤ b ∧ b ≤ 1) (fun z => w z.2)]
      exact ⟨h, rfl, hm, MFm_rf h⟩
  · rw [b2i_f q, if_pos rfl, iteP_f (p := hasL P l ∧ 0 ≤ b ∧ b ≤ 1) (fun z => q z.1)]
    exact ⟨h, rfl, hm, MFm_rf h⟩
end Md

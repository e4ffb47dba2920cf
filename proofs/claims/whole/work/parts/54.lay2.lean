/-! the class: isClosed, lay -/
section Cl
variable {L : Nat} {h : mH} {a : Nat} {P : Nat → Int}
theorem c_codeBit (x : Int) (h : mH) : F_Pg_codeBit x h = some (cbS x, h) := by
  rw [q_Pg_codeBit]
  unfold cbS
  by_cases h1 : x < 6
  · rw [if_pos h1, if_pos h1]
  · rw [if_neg h1, if_neg h1]
    by_cases h2 : 10 ≤ x
    · rw [if_pos h2, if_pos h2]
    · rw [if_neg h2, if_neg h2, w32_id (x := x - 6) (by omega) (by omega)]
theorem c_wc4 (hg : PgO h a) (hP : h.2 (a + 1) = P) {l : Nat} (hl : l < 4) : ∀ (m r : Nat), r + m = 4 → B_Pg_wantedCode_4 a (l : Int) (wcR P l r) (r : Int) h = B_Pg_wantedCode_29 a (l : Int) (wcR P l 4) 0 h
  | 0, r, e => by
    have : r = 4 := by omega
    subst this
    rw [q_Pg_wantedCode_4, if_pos (by decide)]
  | m + 1, r, e => by
    have k1 : ¬ 4 ≤ (r : Int) := by omega
    have hr : r < 4 := by omega
    have z := c_wc4 hg hP hl m (r + 1) (by omega)
    rw [q_Pg_wantedCode_4, if_neg k1, c_wanted hg hl hr, Option.bind_some, hP]
    dsimp only
    rw [c_codeBit, Option.bind_some]
    dsimp only
    rw [w32_nn r (Nat.lt_of_lt_of_le hr (by decide))]
    exact z
theorem c_wc29 (hg : PgO h a) (hP : h.2 (a + 1) = P) {l s : Nat} (hl : l < 4) (hs : pH P l = (s : Int)) (hs3 : s ≤ 3) : ∀ (m i : Nat), i + m = s → B_Pg_wantedCode_29 a (l : Int) (wcK P l i) (i : Int) h = some (wcK P l s, h)
  | 0, i, e => by
    have : i = s := by omega
    subst this
    rw [q_Pg_wantedCode_29, c_wantedHeight hg hl, Option.bind_some, hP, hs]
    dsimp only
    rw [if_pos (Int.le_refl _)]
  | m + 1, i, e => by
    have k1 : ¬ (s : Int) ≤ (i : Int) := by omega
    have hi : i < 4 := by omega
    have z := c_wc29 hg hP hl hs hs3 m (i + 1) (by omega)
    rw [q_Pg_wantedCode_29, c_wantedHeight hg hl, Option.bind_some, hP, hs]
    dsimp only
    rw [if_neg k1, c_wantedFromTop hg hl hi, Option.bind_some, hP]
    dsimp only
    rw [c_codeBit, Option.bind_some]
    dsimp only
    rw [w32_nn i (Nat.lt_of_lt_of_le hi (by decide))]
    exact z
theorem c_wantedCode (hg : PgO h a) (hP : h.2 (a + 1) = P) {l : Nat} (hl : l < 4) (h0 : 0 ≤ pH P l) (h3 : pH P l ≤ 3) : F_Pg_wantedCode a (l : Int) h = some (wcK P l (pH P l).toNat, h) := by
  rw [q_Pg_wantedCode _ _ _ hg.1]
  have z := c_wc4 hg hP hl 4 0 (by decide)
  refine z.trans ?_
  exact c_wc29 hg hP hl (s := (pH P l).toNat) (by omega) (by omega) (pH P l).toNat 0 (by omega)
theorem c_cl4 (hL : Ly L h) (hP : h.2 9 = P) (hp : PV P) {N : Nat} (hN : pL P = (N : Int)) : ∀ (m l : Nat), l + m = N → B_Tx_isClosed_4 7 (mnS P l) (l : Int) h = some (b2i (clS P), h)
  | 0, l, e => by
    have : l = N := by omega
    subst this
    have hg : PgO h 8 := Ly_pg hL (by simp)
    have hP' : h.2 (8 + 1) = P := hP
    have h4 := hp.2.1
    obtain ⟨m1, m2⟩ := mnS_b hp l (by omega)
    rw [q_Tx_isClosed_4, p_7_0 hL, Option.bind_some, t8, c_labels hg, Option.bind_some, hP', show P 1 = (l : Int) from hN]
    dsimp only
    rw [if_pos (Int.le_refl _), p_7_0 hL, Option.bind_some, t8, c_labels hg, Option.bind_some, hP', show P 1 = (l : Int) from hN]
    dsimp only
    by_cases q : (l : Int) ≤ 0
    · rw [if_pos q, b2i_f (fun z => by have := z.1; omega)]
    · rw [if_neg q, p_7_0 hL, Option.bind_some, t8, c_allLabels hg, Option.bind_some, hP', show pL P = (l : Int) from hN]
      dsimp only
      have hcl := hb_cl m1 (N := l) (by omega)
      by_cases w : clS P
      · have : iand (mnS P l) (ixor (w32 (ishl 1 (l : Int) - 1)) (-1)) = 0 := hcl.mpr (fun b hb hh => by
          obtain ⟨u, hu, hm⟩ := (m2 b hb).mp hh
          have := w.2 u b (by omega) hb hm
          omega)
        rw [if_neg (Decidable.not_not.mpr this), b2i_t w]
      · have : iand (mnS P l) (ixor (w32 (ishl 1 (l : Int) - 1)) (-1)) ≠ 0 := fun z => w ⟨by omega, fun u b hu hb hm => by
          have := hcl.mp z b hb ((m2 b hb).mpr ⟨u, by omega, hm⟩)
          omega⟩
        rw [if_pos this, b2i_f w]
  | m + 1, l, e => by
    have hg : PgO h 8 := Ly_pg hL (by simp)
    have hP' : h.2 (8 + 1) = P := hP
    have h4 := hp.2.1
    have hl : (l : Int) < pL P := by omega
    have l4 : l < 4 := by omega
    have k1 : ¬ (N : Int) ≤ (l : Int) := by omega
    have hk := (hp.2.2.2.2.2 l hl).2.2.2.2.1
    have hH := (hp.2.2.2.2.2 l hl).2.1
    have z := c_cl4 hL hP hp hN m (l + 1) (by omega)
    rw [q_Tx_isClosed_4, p_7_0 hL, Option.bind_some, t8, c_labels hg, Option.bind_some, hP', show P 1 = (N : Int) from hN]
    dsimp only
    rw [if_neg k1, p_7_0 hL, Option.bind_some, t8, c_targets hL hg hP' l4 hk.1 hk.2 (fun k hk => PV_tok hp hl hk), Option.bind_some]
    dsimp only
    rw [p_7_0 hL, Option.bind_some, t8, c_wantedCode hg hP' l4 hH.1 hH.2, Option.bind_some]
    dsimp only
    rw [w32_nn l (Nat.lt_of_lt_of_le l4 (by decide))]
    exact z
theorem c_isClosed (hL : Ly L h) (hP : h.2 9 = P) (hp : PV P) : F_Tx_isClosed 7 h = some (b2i (clS P), h) := by
  have h4 := hp.2.1
  rw [q_Tx_isClosed _ _ (o_7 hL)]
  exact c_cl4 hL hP hp (N := (pL P).toNat) (by omega) (pL P).toNat 0 (by omega)
end Cl
/-- what lay answers, and the program that it lays -/
noncomputable def layA (T : Nat → Int) (n : Nat) : Int × Option (Nat → Int) := iteP ((rdA T n).1 = -4 ∧ clS (rdA T n).2) (pL (rdA T n).2, some (rdA T n).2) (-2, none)
def layN (P : Nat → Int) (U K : List (Nat → Int)) : Option (Nat → Int) → (Nat → Int) × List (Nat → Int) × List (Nat → Int)
  | none => (P, U, K)
  | some Q => (Q, [], [])
section Tb
variable {L n : Nat} {T P : Nat → Int} {U K : List (Nat → Int)} {h : mH}
theorem c_lay (hc : CI L n T P U K h) : ∃ h', F_Tb_lay 6 h = some ((layA T n).1, h') ∧ CI L n T (layN P U K (layA T n).2).1 (layN P U K (layA T n).2).2.1 (layN P U K (layA T n).2).2.2 h' ∧ TF h h' ∧ ∀ Q, (layA T n).2 = some Q → Val Q := by
  obtain ⟨h1, a1, a2, a3, a4⟩ := c_readAll hc
  have t7 : (7 : Int).toNat = 7 := rfl
  have t9 : (9 : Int).toNat = 9 := rfl
  unfold layA
  rw [q_Tb_lay _ _ (o_6 hc.1), p_6_0 hc.1, Option.bind_some, t7, a1, Option.bind_some]
  dsimp only
  by_cases q : (rdA T n).1 = -4
  · obtain ⟨b1, b2⟩ := a4 q
    rw [if_neg (Decidable.not_not.mpr q), p_6_0 a2.1, Option.bind_some, t7, c_isClosed a2.1 b1 b2, Option.bind_some]
    dsimp only
    by_cases w : clS (rdA T n).2
    · have hz : Zr (rdA T n).2 := by rw [← b1]; exact a2.2.1.1
      obtain ⟨c1, c2⟩ := CI_now a2 hz
      obtain ⟨h3, d1, d2, d3⟩ := CI_clr8 c1
      obtain ⟨h4, e1, e2, e3⟩ := CI_clr2 d2
      have hcp := c_copyFrom (CI_pg a2) (sh_9 a2.1) a2.2.1.1 a2.2.1.2.1 (by decide)
      rw [b1] at hcp
      have hcp' : F_Pg_copyFrom 11 9 h1 = some (mrow h1 12 (rdA T n).2) := hcp
      rw [iteP_t ⟨q, w⟩]
      refine ⟨h4, ?_, e2, TF_tr a3 (TF_tr c2 (TF_tr d3 e3)), fun Q hQ => ?_⟩
      · rw [b2i_t w, if_pos (by decide), p_6_1 a2.1, Option.bind_some, p_6_0 a2.1, Option.bind_some, t7, p_7_0 a2.1, Option.bind_some, t8, p_8_0 a2.1, Option.bind_some, t11, t9, hcp', Option.bind_some, p_6_5 c1.1, Option.bind_some, t29, d1, Option.bind_some, p_6_6 d2.1, Option.bind_some, t39, e1, Option.bind_some, p_6_1 e2.1, Option.bind_some, t11, c_labels (CI_pg e2), Option.bind_some, show h4.2 (11 + 1) = _ from e2.2.2.2.1]
      · have : (rdA T n).2 = Q := Option.some.inj hQ
        rw [← this]
        exact Val_cl b2 w
    · rw [b2i_f w, if_neg (by decide), iteP_f (fun z => w z.2)]
      exact ⟨h1, rfl, a2, a3, fun Q hQ => by cases hQ⟩
  · rw [if_pos q, iteP_f (fun z => q z.1)]
    exact ⟨h1, rfl, a2, a3, fun Q hQ => by cases hQ⟩
end Tb

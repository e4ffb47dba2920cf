/-! the class: might, mends, day -/
theorem ru_ru (f : Nat → Int) (j : Nat) (v w : Int) : ru (ru f j v) j w = ru f j w := by
  funext i
  unfold ru
  split
  · rfl
  · rfl
theorem ru_self (f : Nat → Int) (j : Nat) : ru f j (f j) = f := by
  funext i
  unfold ru
  split
  · rename_i e; rw [e]
  · rfl
theorem insS_insS (P : Nat → Int) (l k : Nat) (c x y z c' x' y' z' : Int) : insS (insS P l k c x y z) l k c' x' y' z' = insS P l k c' x' y' z' := by
  funext i
  unfold insS ru
  split
  · rfl
  · split
    · rfl
    · split
      · rfl
      · split
        · rfl
        · rfl
noncomputable def miS (P : Nat → Int) (l r : Nat) : Nat → Int
  | 0 => 0
  | t + 1 => iteP (tyOk P t ∧ sbS (ru P (18 + 34 * l + r) t) (pL P).toNat = w32 (ishl 1 (pL P) - 1)) (ior (miS P l r t) (ishl 1 t)) (miS P l r t)
noncomputable def mightA (P : Nat → Int) (l r : Int) : Int := iteP (hasL P l ∧ 0 ≤ r ∧ r < 4) (miS P l.toNat r.toNat 10) (-1)
section Tb
variable {L n : Nat} {T P : Nat → Int} {U K : List (Nat → Int)} {h : mH}
theorem CI_tr (hc : CI L n T P U K h) {Q : Nat → Int} (hz : Zr Q) : CI L n T P U K (mrow h 14 Q) ∧ TF h (mrow h 14 Q) :=
  CI_ck hc (Fr_row h Q (by simp)) (Ly_row hc.1 (fun j => rfl)) (by rw [mrow_s]; exact hz)
theorem CI_pt (hc : CI L n T P U K h) : PgO h 13 := Ly_pg hc.1 (by simp)
theorem CI_cpT (hc : CI L n T P U K h) : F_Pg_copyFrom 13 12 h = some (mrow h 14 P) := by
  have := c_copyFrom (CI_pt hc) (sh_12 hc.1) hc.2.1.2.1 hc.2.1.2.2 (by decide)
  rw [hc.2.2.2.1] at this
  exact this
theorem CI_zP (hc : CI L n T P U K h) : Zr P := by rw [← hc.2.2.2.1]; exact hc.2.1.2.1
theorem CI_takeT (hc : CI L n T P U K h) (hv : Val (h.2 14)) : ∃ h1, F_Ck_take 15 13 h = some h1 ∧ CkP L h1 (h.2 14) ∧ CkT h1 (h.2 14) ∧ CI L n T P U K h1 ∧ TF h h1 ∧ h1.2 14 = h.2 14 ∧ h1.2 15 0 = 13 := by
  obtain ⟨h1, a1, a2, a3, a4, a5⟩ := c_take (pa := 13) hc.1 (Or.inr rfl) hv
  have f : Fr [14, 15, 18, 19, 20, 21] h h1 := Fr_mono a4 (by simp)
  have e : h1.2 14 = h.2 14 := a4.2 14 (by simp)
  obtain ⟨b1, b2⟩ := CI_ck hc f a2.1 (by rw [e]; exact hc.2.1.2.2)
  refine ⟨h1, a1, a2, a3, b1, b2, e, ?_⟩
  have q := q_Ck_take 15 13 h (o_15 hc.1)
  rw [a1] at q
  have hP : CkP L (mw h 15 0 ((13 : Nat) : Int)) (h.2 (13 + 1)) := ⟨Ly_mw hc.1 rfl, 13, Or.inr rfl, mw_s _ _ _ _, by rw [mw_o _ _ _ (by omega)]⟩
  obtain ⟨g1, o', c1, c2, c3⟩ := c_take12 hv 13 4 0 none (mw h 15 0 ((13 : Nat) : Int)) rfl hP (fun p' q' b1 b2 b3 => by omega)
  rw [show ((0 : Nat) : Int) = 0 from rfl] at c1
  obtain ⟨g2, d1, d2, d3⟩ := c_take54 13 o' 4 0 g1 rfl (CkP_fr c2 (by simp) hP) (fun k hk => by omega)
  rw [show ((0 : Nat) : Int) = 0 from rfl] at d1
  rw [if_pos (by decide), f_15 hc.1 (by decide), Option.bind_some, c1, d1] at q
  have : h1 = g2 := by cases q; rfl
  rw [this, d2.2 15 (by simp), c2.2 15 (by simp), mw_s]
  rfl
theorem c_might41 (hv : Val P) {l r : Nat} (hl : l < 4) (hr : r < 4) : ∀ (m t : Nat) (h : mH), t + m = 10 → CI L n T P U K h → (∃ v, h.2 14 = ru P (18 + 34 * l + r) v) →
    ∃ h', B_Tb_might_41 6 (l : Int) (r : Int) (miS P l r t) (t : Int) h = some (miS P l r 10, h') ∧ CI L n T P U K h' ∧ TF h h'
  | 0, t, h, e, hc, _ => by
    have : t = 10 := by omega
    subst this
    exact ⟨h, by rw [q_Tb_might_41, if_pos (by decide)], hc, TF_rf h⟩
  | m + 1, t, h, e, hc, ht => by
    obtain ⟨v, hv0⟩ := ht
    have hL := hc.1
    have hP : h.2 (11 + 1) = P := hc.2.2.2.1
    have hx : ¬ (10 : Int) ≤ (t : Int) := by omega
    have hx3 : (t : Int) < 2147483648 := by omega
    have hm1 : t + 1 + m = 10 := by omega
    have ht1000 : t < 1000 := by omega
    have hj : 18 + 34 * l + r < 154 := by omega
    have e1 := w32_nn t ht1000
    by_cases q : tyOk P (t : Int)
    · have hz : Zr (ru P (18 + 34 * l + r) t) := Zr_ru (CI_zP hc) _ hj
      obtain ⟨b1, b2⟩ := CI_tr hc hz
      have hvq : Val (ru P (18 + 34 * l + r) t) := Val_want hv hl hr q
      obtain ⟨g1, a1, a2, a3, a4, a5, a6, -⟩ := CI_takeT b1 (by rw [mrow_s]; exact hvq)
      rw [mrow_s] at a2 a3 a6
      obtain ⟨g2, d1, d2⟩ := c_sureBits a2 a3 hvq
      obtain ⟨f1, f2⟩ := CI_ckF a4 d2
      have h14 : g2.2 14 = ru P (18 + 34 * l + r) t := by rw [d2.2.1 14 (by decide) (by decide) (by decide)]; exact a6
      obtain ⟨h', z1, z2, z3⟩ := c_might41 hv hl hr m (t + 1) g2 hm1 f1 ⟨t, h14⟩
      refine ⟨h', ?_, z2, TF_tr b2 (TF_tr a5 (TF_tr f2 z3))⟩
      have eL : pL (ru P (18 + 34 * l + r) t) = pL P := St_L (St_want hl hr t)
      rw [q_Tb_might_41, if_neg hx, p_6_1 hL, Option.bind_some, t11, c_hasType (CI_pg hc) hx3 (by rw [hP]; exact hv.1.2), Option.bind_some, hP]
      dsimp only
      rw [b2i_t q, if_neg (by decide), p_6_2 hL, Option.bind_some, t13, c_setWanted (CI_pt hc) hl hr, Option.bind_some, hv0, ru_ru, p_6_3 b1.1, Option.bind_some, p_6_2 b1.1, Option.bind_some, t15, t13, a1, Option.bind_some, p_6_3 a4.1, Option.bind_some, t15, d1, Option.bind_some]
      dsimp only
      rw [p_6_2 f1.1, Option.bind_some, t13, c_allLabels (CI_pt f1), Option.bind_some, h14, eL]
      dsimp only
      by_cases w : sbS (ru P (18 + 34 * l + r) t) (pL P).toNat = w32 (ishl 1 (pL P) - 1)
      · have er : miS P l r (t + 1) = ior (miS P l r t) (ishl 1 t) := by
          show iteP _ _ _ = _
          rw [iteP_t ⟨q, w⟩]
        rw [if_neg (Decidable.not_not.mpr w), q_Tb_might_106, e1, ← er]
        exact z1
      · have er : miS P l r (t + 1) = miS P l r t := by
          show iteP _ _ _ = _
          rw [iteP_f (fun z => w z.2)]
        rw [if_pos w, q_Tb_might_106, e1, ← er]
        exact z1
    · obtain ⟨h', z1, z2, z3⟩ := c_might41 hv hl hr m (t + 1) h hm1 hc ⟨v, hv0⟩
      have er : miS P l r (t + 1) = miS P l r t := by
        show iteP _ _ _ = _
        rw [iteP_f (fun z => q z.1)]
      refine ⟨h', ?_, z2, z3⟩
      rw [q_Tb_might_41, if_neg hx, p_6_1 hL, Option.bind_some, t11, c_hasType (CI_pg hc) hx3 (by rw [hP]; exact hv.1.2), Option.bind_some, hP]
      dsimp only
      rw [b2i_f q, if_pos rfl, q_Tb_might_106, e1, ← er]
      exact z1
theorem c_might (hc : CI L n T P U K h) (hv : Val P) (l r : Int) : ∃ h', F_Tb_might 6 l r h = some (mightA P l r, h') ∧ CI L n T P U K h' ∧ TF h h' := by
  have hL := hc.1
  have hP : h.2 (11 + 1) = P := hc.2.2.2.1
  unfold mightA
  rw [q_Tb_might _ _ _ _ (o_6 hL), p_6_1 hL, Option.bind_some, t11, c_hasLabel (CI_pg hc), hP, Option.bind_some]
  dsimp only
  by_cases h1 : 0 ≤ l ∧ l < pL P
  · obtain ⟨m, rfl⟩ := n_of h1.1
    have hm : m < 4 := by have := hv.2.1; omega
    rw [if_pos h1, if_neg (by decide), tn]
    by_cases h2 : r < 0
    · rw [if_pos h2, iteP_f (by omega)]
      exact ⟨h, rfl, hc, TF_rf h⟩
    · rw [if_neg h2]
      obtain ⟨g, rfl⟩ := n_of (show 0 ≤ r by omega)
      by_cases h3 : (g : Int) < 4
      · have hg : g < 4 := by omega
        obtain ⟨b1, b2⟩ := CI_tr hc (CI_zP hc)
        obtain ⟨h', z1, z2, z3⟩ := c_might41 hv hm hg 10 0 (mrow h 14 P) (by decide) b1 ⟨P (18 + 34 * m + g), by rw [mrow_s, ru_self]⟩
        refine ⟨h', ?_, z2, TF_tr b2 z3⟩
        rw [if_pos h3, iteP_t ⟨h1, by omega, h3⟩, p_6_2 hL, Option.bind_some, p_6_1 hL, Option.bind_some, t13, t11, p_11_0 hL, Option.bind_some, t12, CI_cpT hc, Option.bind_some, tn]
        exact z1
      · rw [if_neg h3, iteP_f (by omega)]
        exact ⟨h, rfl, hc, TF_rf h⟩
  · rw [if_neg h1, if_pos rfl, iteP_f (fun q => h1 q.1)]
    exact ⟨h, rfl, hc, TF_rf h⟩
end Tb

/-! the class: run -/
noncomputable def rnS (P : Nat → Int) (w : Int) : Nat → Int × Int × mSt
  | 0 => (0, 0, begS P w)
  | k + 1 => iteP ((rnS P w k).1 ≠ 0) (rnS P w k) ((goM P (rnS P w k).2.2).1, (rnS P w k).2.1 + b2i ((goM P (rnS P w k).2.2).1 = 0 ∨ (goM P (rnS P w k).2.2).1 = 1), (goM P (rnS P w k).2.2).2)
theorem rn_stop {P : Nat → Int} {w : Int} {k : Nat} (h : (rnS P w k).1 ≠ 0) : ∀ n, rnS P w (k + n) = rnS P w k
  | 0 => rfl
  | n + 1 => by
    have ih := rn_stop h n
    have e : rnS P w ((k + n) + 1) = rnS P w (k + n) := by
      have q : (rnS P w (k + n)).1 ≠ 0 := by rw [ih]; exact h
      show iteP _ _ _ = _
      rw [iteP_t q]
    exact e.trans ih
theorem rn_s {P : Nat → Int} {w : Int} {k : Nat} (h : (rnS P w k).1 = 0) : rnS P w (k + 1) = ((goM P (rnS P w k).2.2).1, (rnS P w k).2.1 + b2i ((goM P (rnS P w k).2.2).1 = 0 ∨ (goM P (rnS P w k).2.2).1 = 1), (goM P (rnS P w k).2.2).2) := by
  show iteP _ _ _ = _
  rw [iteP_f (Decidable.not_not.mpr h)]
theorem go_v {P : Nat → Int} {s : mSt} (hV : Val P) (h : VM P s) : VM P (goM P s).2 := by
  unfold goM
  by_cases q : (sP s : Int) < pK P (sA s)
  · rw [iteP_t q]
    obtain ⟨c, x, y, z, e0, e1, e2, e3, hm⟩ := ins_b hV h.2.1.1 q
    rw [e0, e1, e2, e3, tn, tn, tn]
    exact VM_step h hV hm q
  · rw [iteP_f q]; exact h
theorem rn_v {P : Nat → Int} {w : Int} (hV : Val P) (hw : 0 ≤ w ∧ w < 100) : ∀ k : Nat, VM P (rnS P w k).2.2 ∧ 0 ≤ (rnS P w k).2.1 ∧ (rnS P w k).2.1 ≤ k
  | 0 => ⟨VM_beg hV hw, by show (0 : Int) ≤ 0; decide, by show (0 : Int) ≤ ((0 : Nat) : Int); decide⟩
  | k + 1 => by
    obtain ⟨i1, i2, i3⟩ := rn_v hV hw k
    by_cases q : (rnS P w k).1 = 0
    · rw [rn_s q]
      have := b2i_01 ((goM P (rnS P w k).2.2).1 = 0 ∨ (goM P (rnS P w k).2.2).1 = 1)
      refine ⟨go_v hV i1, ?_, ?_⟩
      · show 0 ≤ (rnS P w k).2.1 + b2i _; omega
      · show (rnS P w k).2.1 + b2i _ ≤ ((k + 1 : Nat) : Int); omega
    · rw [rn_stop q 1]
      exact ⟨i1, i2, by omega⟩
section Rn
variable {L n : Nat} {T P : Nat → Int} {U K : List (Nat → Int)} {h : mH} {s : mSt}
theorem MR_910 (hr : MR L P s h) {j : Nat} (v : Int) (hj : j = 9 ∨ j = 10) : MR L P s (mw h 22 j v) := by
  obtain ⟨hL, ⟨h1, h2⟩, h3, ⟨h4, h5, h6⟩, h7, h8, h9, h10, h11⟩ := hr
  have hp : ptr 22 j = none := by rcases hj with e | e <;> subst e <;> rfl
  exact ⟨Ly_mw hL hp, ⟨by rw [mw_d _ _ (by omega)]; exact h1, by rw [mw_o _ _ _ (by decide)]; exact h2⟩, by rw [mw_o _ _ _ (by decide)]; exact h3, ⟨by rw [mw_d _ _ (by omega)]; exact h4, h5, by rw [mw_o _ _ _ (by decide)]; exact h6⟩, by rw [mw_o _ _ _ (by decide)]; exact h7, by rw [mw_o _ _ _ (by decide)]; exact h8, by rw [mw_d _ _ (by omega)]; exact h9, by rw [mw_d _ _ (by omega)]; exact h10, by rw [mw_d _ _ (by omega)]; exact h11⟩
theorem MF_MX {h h' : mH} (f : MF h h') : MX h h' := ⟨f.1, f.2.1⟩
def RI (L : Nat) (P : Nat → Int) (r : Int × Int × mSt) (h : mH) : Prop := MR L P r.2.2 h ∧ h.2 22 10 = r.1 ∧ h.2 22 9 = r.2.1
theorem c_go41 (hr : MR L P s h) {st : Int} (h9 : h.2 22 9 = st) (hst : 0 ≤ st ∧ st < 1000) (N k v : Int) : ∃ h', B_Mc_goOn_41 22 N k v 22 h = B_Mc_goOn_2 22 N (w32 (k + 1)) h' ∧ RI L P (v, st + b2i (v = 0 ∨ v = 1), s) h' ∧ MX h h' := by
  have r1 := MR_910 hr v (j := 10) (Or.inr rfl)
  have r2 := MR_910 r1 (st + 1) (j := 9) (Or.inl rfl)
  have g10 : gfd 1 10 (mw h 22 10 v) 22 = some v := by rw [g_22 r1.1 (by decide), mw_s]
  have g9 : gfd 1 9 (mw h 22 10 v) 22 = some st := by rw [g_22 r1.1 (by decide), mw_d _ _ (by decide), h9]
  have k6 : -2147483648 ≤ st + 1 := by omega
  have k7 : st + 1 < 2147483648 := by omega
  have s59 : B_Mc_goOn_59 22 N k (mw h 22 10 v) = B_Mc_goOn_2 22 N (w32 (k + 1)) (mw (mw h 22 10 v) 22 9 (st + 1)) := by
    rw [q_Mc_goOn_59, g9, Option.bind_some, w32_id k6 k7, f_22 r1.1 (by decide), Option.bind_some, q_Mc_goOn_69]
  rw [q_Mc_goOn_41, f_22 hr.1 (by decide), Option.bind_some, g10, Option.bind_some]
  by_cases v0 : v = 0
  · refine ⟨mw (mw h 22 10 v) 22 9 (st + 1), ?_, ⟨r2, ?_, ?_⟩, MX_tr (MX_mw h _ (by simp)) (MX_mw _ _ (by simp))⟩
    · rw [if_pos v0, s59]
    · rw [mw_d _ _ (by decide), mw_s]
    · rw [mw_s, b2i_t (Or.inl v0)]
  · rw [if_neg v0, Option.bind_some]
    by_cases v1 : v = 1
    · refine ⟨mw (mw h 22 10 v) 22 9 (st + 1), ?_, ⟨r2, ?_, ?_⟩, MX_tr (MX_mw h _ (by simp)) (MX_mw _ _ (by simp))⟩
      · rw [if_neg (Decidable.not_not.mpr v1), s59]
      · rw [mw_d _ _ (by decide), mw_s]
      · rw [mw_s, b2i_t (Or.inr v1)]
    · refine ⟨mw h 22 10 v, ?_, ⟨r1, ?_, ?_⟩, MX_mw h _ (by simp)⟩
      · rw [if_pos v1, q_Mc_goOn_69]
      · rw [mw_s]
      · rw [mw_d _ _ (by decide), h9, b2i_f (fun z => z.elim v0 v1), Int.add_zero]
theorem c_go2 (hV : Val P) {w : Int} (hw : 0 ≤ w ∧ w < 100) {N : Nat} (hN : N ≤ 200) : ∀ (m k : Nat) (h : mH), k + m = N → RI L P (rnS P w k) h → ∃ h', B_Mc_goOn_2 22 (N : Int) (k : Int) h = some h' ∧ RI L P (rnS P w N) h' ∧ MX h h'
  | 0, k, h, e, hr => by
    have : k = N := by omega
    subst this
    exact ⟨h, by rw [q_Mc_goOn_2, if_pos (Int.le_refl _)], hr, MX_rf h⟩
  | m + 1, k, h, e, hr => by
    obtain ⟨r1, r2, r3⟩ := id hr
    obtain ⟨v1, v2, v3⟩ := rn_v (w := w) hV hw k
    have k1 : ¬ (N : Int) ≤ (k : Int) := by omega
    have kk : k < 1000 := by omega
    have kst : (rnS P w k).2.1 < 1000 := by omega
    have hm1 : k + 1 + m = N := by omega
    rw [q_Mc_goOn_2, if_neg k1, g_22 r1.1 (by decide), Option.bind_some, r2]
    by_cases q : (rnS P w k).1 = 0
    · rw [if_neg (Decidable.not_not.mpr q)]
      obtain ⟨g1, g2, g3⟩ := mc_prog r1
      have g7 : gfd 1 7 h 22 = some (sA (rnS P w k).2.2 : Int) := by rw [g_22 r1.1 (by decide), r1.2.2.2.2.2.2.2.1]
      have g8 : gfd 1 8 h 22 = some (sP (rnS P w k).2.2 : Int) := by rw [g_22 r1.1 (by decide), r1.2.2.2.2.2.2.2.2]
      have hA := v1.2.1.1
      have hA0 : (0 : Int) ≤ (sA (rnS P w k).2.2 : Int) := by omega
      have hP0 : (0 : Int) ≤ (sP (rnS P w k).2.2 : Int) := by omega
      have er := rn_s q
      rw [g1, Option.bind_some, g7, Option.bind_some, g8, Option.bind_some, t11, c_hasInstruction g2 (by rw [g3]; exact hV.2.1.2), Option.bind_some, g3]
      dsimp only
      by_cases p : (sP (rnS P w k).2.2 : Int) < pK P (sA (rnS P w k).2.2)
      · rw [b2i_t ⟨⟨hA0, hA⟩, hP0, by rw [tn]; exact p⟩, if_neg (by decide)]
        obtain ⟨c, x, y, z, e0, e1, e2, e3, hmay⟩ := ins_b hV hA p
        have eg : goM P (rnS P w k).2.2 = stepM P (rnS P w k).2.2 c x y z := by
          unfold goM
          rw [iteP_t p, e0, e1, e2, e3, tn, tn, tn]
        obtain ⟨h1, a1, a2, a3⟩ := c_mstep r1 v1 hV p e0 e1 e2 e3 hmay
        rw [← eg] at a1 a2
        obtain ⟨h2, b1, b2, b3⟩ := c_go41 a2 (by rw [a3.2.2 9 (by decide)]; exact r3) ⟨v2, kst⟩ (N : Int) (k : Int) (goM P (rnS P w k).2.2).1
        rw [← er] at b2
        obtain ⟨h', z1, z2, z3⟩ := c_go2 hV hw hN m (k + 1) h2 hm1 b2
        refine ⟨h', ?_, z2, MX_tr (MF_MX a3) (MX_tr b3 z3)⟩
        rw [a1, Option.bind_some]
        dsimp only
        rw [b1, w32_nn k kk]
        exact z1
      · have eg : goM P (rnS P w k).2.2 = (2, (rnS P w k).2.2) := by
          unfold goM
          rw [iteP_f p]
        obtain ⟨h2, b1, b2, b3⟩ := c_go41 r1 r3 ⟨v2, kst⟩ (N : Int) (k : Int) 2
        rw [eg] at er
        have er' : rnS P w (k + 1) = (2, (rnS P w k).2.1 + b2i ((2 : Int) = 0 ∨ (2 : Int) = 1), (rnS P w k).2.2) := er
        rw [← er'] at b2
        obtain ⟨h', z1, z2, z3⟩ := c_go2 hV hw hN m (k + 1) h2 hm1 b2
        refine ⟨h', ?_, z2, MX_tr b3 z3⟩
        rw [b2i_f (fun z => p (by have := z.2.2; rw [tn] at this; exact this)), if_pos rfl, b1, w32_nn k kk]
        exact z1
    · rw [if_pos q]
      have := rn_stop q (m + 1)
      rw [e] at this
      exact ⟨h, rfl, by rw [this]; exact hr, MX_rf h⟩
theorem CI_mx {h' : mH} (hc : CI L n T P U K h) (f : MX h h') (hL' : Ly L h') : CI L n T P U K h' ∧ TF h h' := by
  obtain ⟨hL, ⟨z9, z12, z14⟩, ⟨t1, t2, t3⟩, hP, hU, hK⟩ := hc
  have g : ∀ a, (a < 22 ∨ 28 < a) → h'.2 a = h.2 a := fun a ha => f.2 a (by simp; omega)
  exact ⟨⟨hL', ⟨by rw [g 9 (by decide)]; exact z9, by rw [g 12 (by decide)]; exact z12, by rw [g 14 (by decide)]; exact z14⟩, ⟨by rw [g 7 (by decide)]; exact t1, t2, by rw [g 10 (by decide)]; exact t3⟩, by rw [g 12 (by decide)]; exact hP, ShI_c (fun b hb => g b (by omega)) hU, ShI_c (fun b hb => g b (by omega)) hK⟩, f.1, fun a ha => g a (by omega)⟩
noncomputable def runA (P : Nat → Int) (w n u : Int) : Int :=
  iteP ((0 ≤ w ∧ w ≤ 99) ∧ (0 ≤ n ∧ n ≤ 200) ∧ 0 ≤ u ∧ u ≤ 4)
    (if u = 0 then (rnS P w n.toNat).1 else if u = 1 then (rnS P w n.toNat).2.1 else if u = 2 then (sA (rnS P w n.toNat).2.2 : Int) else if u = 3 then (sP (rnS P w n.toNat).2.2 : Int) else iteP (isW (sR (rnS P w n.toNat).2.2 0)) (sR (rnS P w n.toNat).2.2 0) (-4)) (-1)
theorem c_run (hc : CI L n T P U K h) (hv : Val P) (w m u : Int) : ∃ h', F_Tb_run 6 w m u h = some (runA P w m u, h') ∧ CI L n T P U K h' ∧ TF h h' := by
  have hL := hc.1
  unfold runA
  rw [q_Tb_run _ _ _ _ _ (o_6 hL)]
  by_cases a1 : w < 0
  · rw [if_pos a1, iteP_f (by omega)]
    exact ⟨h, rfl, hc, TF_rf h⟩
  rw [if_neg a1]
  by_cases a2 : 99 < w
  · rw [if_pos a2, iteP_f (by omega)]
    exact ⟨h, rfl, hc, TF_rf h⟩
  rw [if_neg a2]
  by_cases a3 : m < 0
  · rw [if_pos a3, iteP_f (by omega)]
    exact ⟨h, rfl, hc, TF_rf h⟩
  rw [if_neg a3]
  by_cases a4 : 200 < m
  · rw [if_pos a4, iteP_f (by omega)]
    exact ⟨h, rfl, hc, TF_rf h⟩
  rw [if_neg a4]
  by_cases a5 : u < 0
  · rw [if_pos a5, iteP_f (by omega)]
    exact ⟨h, rfl, hc, TF_rf h⟩
  rw [if_neg a5]
  by_cases a6 : u ≤ 4
  · obtain ⟨N, rfl⟩ := n_of (show 0 ≤ m by omega)
    have hw : 0 ≤ w ∧ w < 100 := by omega
    obtain ⟨h1, b1, b2, b3, b4, b5⟩ := c_mbegin hL hc.2.2.2.1 hv w
    obtain ⟨h', d1, d2, d3⟩ := c_go2 hv hw (N := N) (by omega) N 0 h1 (by omega) ⟨b2, b5, b4⟩
    obtain ⟨c1, c2⟩ := CI_mx hc (MX_tr b3 d3) d2.1.1
    obtain ⟨r1, r2, r3⟩ := d2
    rw [show ((0 : Nat) : Int) = 0 from rfl] at d1
    refine ⟨h', ?_, c1, c2⟩
    rw [if_pos a6, iteP_t (by omega), p_6_4 hL, Option.bind_some, p_6_1 hL, Option.bind_some, t11, t22, b1, Option.bind_some, p_6_4 b2.1, Option.bind_some, t22, q_Mc_goOn _ _ _ (o_22 b2.1), d1, Option.bind_some, tn]
    by_cases u0 : u = 0
    · rw [if_pos u0, if_pos u0, p_6_4 r1.1, Option.bind_some, t22, g_22 r1.1 (by decide), Option.bind_some, r2]
    rw [if_neg u0, if_neg u0]
    by_cases u1 : u = 1
    · rw [if_pos u1, if_pos u1, p_6_4 r1.1, Option.bind_some, t22, g_22 r1.1 (by decide), Option.bind_some, r3]
    rw [if_neg u1, if_neg u1]
    by_cases u2 : u = 2
    · rw [if_pos u2, if_pos u2, p_6_4 r1.1, Option.bind_some, t22, g_22 r1.1 (by decide), Option.bind_some, r1.2.2.2.2.2.2.2.1]
    rw [if_neg u2, if_neg u2]
    by_cases u3 : u = 3
    · rw [if_pos u3, if_pos u3, p_6_4 r1.1, Option.bind_some, t22, g_22 r1.1 (by decide), Option.bind_some, r1.2.2.2.2.2.2.2.2]
    rw [if_neg u3, if_neg u3, p_6_4 r1.1, Option.bind_some, t22, show F_Mc_register 22 0 h' = _ from c_mreg r1 (r := 0) (by decide), Option.bind_some]
    dsimp only
    rw [c_isW, Option.bind_some]
    dsimp only
    by_cases q : isW (sR (rnS P w N).2.2 0)
    · rw [b2i_t q, if_neg (by decide), iteP_t q, p_6_4 r1.1, Option.bind_some, t22, show F_Mc_register 22 0 h' = _ from c_mreg r1 (r := 0) (by decide), Option.bind_some]
    · rw [b2i_f q, if_pos rfl, iteP_f q]
  · rw [if_neg a6, iteP_f (by omega)]
    exact ⟨h, rfl, hc, TF_rf h⟩
end Rn

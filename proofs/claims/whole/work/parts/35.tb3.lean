/-! the class: shelves and checks -/
section Tb
variable {L n : Nat} {T P : Nat → Int} {U K : List (Nat → Int)} {h : mH}
theorem CI_ck {h' : mH} (hc : CI L n T P U K h) (f : Fr [14, 15, 18, 19, 20, 21] h h') (hL' : Ly L h') (z : Zr (h'.2 14)) : CI L n T P U K h' ∧ TF h h' := by
  obtain ⟨hL, ⟨z9, z12, z14⟩, ⟨t1, t2, t3⟩, hP, hU, hK⟩ := hc
  have g : ∀ a, (a < 14 ∨ 21 < a) → h'.2 a = h.2 a := fun a ha => f.2 a (by simp; omega)
  exact ⟨⟨hL', ⟨by rw [g 9 (by decide)]; exact z9, by rw [g 12 (by decide)]; exact z12, z⟩, ⟨by rw [g 7 (by decide)]; exact t1, t2, by rw [g 10 (by decide)]; exact t3⟩, by rw [g 12 (by decide)]; exact hP, ShI_c (fun b hb => g b (by omega)) hU, ShI_c (fun b hb => g b (by omega)) hK⟩, f.1, fun a ha => g a (by omega)⟩
theorem CI_undo {q : Nat → Int} (hc : CI L n T P (q :: U) K h) : ∃ h', F_Sh_giveBack 29 11 h = some h' ∧ CI L n T q U K h' ∧ TF h h' := by
  obtain ⟨hL, ⟨z9, z12, z14⟩, ⟨t1, t2, t3⟩, hP, hU, hK⟩ := id hc
  obtain ⟨h', a1, a2, a3⟩ := c_giveBack (Ly_sh8 hL) hU (CI_pg hc) z12 (by decide)
  have hq : Zr q := by
    obtain ⟨⟨nx, n1, n2, n3⟩, m1, m2, m3⟩ := hU
    rw [← n3 0 q (by simp)]
    exact m3 _ (Nat.mod_lt _ (by decide))
  obtain ⟨c1, c2⟩ := CI_now hc hq
  have f := a3.2.1
  obtain ⟨gL, ⟨y9, y12, y14⟩, ⟨s1, s2, s3⟩, gP, gU, gK⟩ := c1
  exact ⟨h', a1, ⟨ShF_Ly (Or.inl ⟨rfl, rfl⟩) a3 gL, ⟨by rw [f 9 (by decide) (by decide)]; exact y9, by rw [f 12 (by decide) (by decide)]; exact y12, by rw [f 14 (by decide) (by decide)]; exact y14⟩, ⟨by rw [f 7 (by decide) (by decide)]; exact s1, s2, by rw [f 10 (by decide) (by decide)]; exact s3⟩, by rw [f 12 (by decide) (by decide)]; exact gP, a2, ShI_c (fun b hb => f b (by omega) (by omega)) gK⟩, TF_tr c2 (TF_sh8 a3)⟩
theorem CI_back {q : Nat → Int} (hc : CI L n T P U (q :: K) h) : ∃ h', F_Sh_giveBack 39 11 h = some h' ∧ CI L n T q U K h' ∧ TF h h' := by
  obtain ⟨hL, ⟨z9, z12, z14⟩, ⟨t1, t2, t3⟩, hP, hU, hK⟩ := id hc
  obtain ⟨h', a1, a2, a3⟩ := c_giveBack (Ly_sh2 hL) hK (CI_pg hc) z12 (by decide)
  have hq : Zr q := by
    obtain ⟨⟨nx, n1, n2, n3⟩, m1, m2, m3⟩ := hK
    rw [← n3 0 q (by simp)]
    exact m3 _ (Nat.mod_lt _ (by decide))
  obtain ⟨c1, c2⟩ := CI_now hc hq
  have f := a3.2.1
  obtain ⟨gL, ⟨y9, y12, y14⟩, ⟨s1, s2, s3⟩, gP, gU, gK⟩ := c1
  exact ⟨h', a1, ⟨ShF_Ly (Or.inr ⟨rfl, rfl⟩) a3 gL, ⟨by rw [f 9 (by decide) (by decide)]; exact y9, by rw [f 12 (by decide) (by decide)]; exact y12, by rw [f 14 (by decide) (by decide)]; exact y14⟩, ⟨by rw [f 7 (by decide) (by decide)]; exact s1, s2, by rw [f 10 (by decide) (by decide)]; exact s3⟩, by rw [f 12 (by decide) (by decide)]; exact gP, ShI_c (fun b hb => f b (by omega) (by omega)) gU, a2⟩, TF_tr c2 (TF_sh2 a3)⟩
theorem CI_keep (hc : CI L n T P U K h) : ∃ h', F_Sh_hold 39 12 h = some h' ∧ CI L n T P U ((P :: K).take 2) h' ∧ TF h h' := by
  obtain ⟨hL, ⟨z9, z12, z14⟩, ⟨t1, t2, t3⟩, hP, hU, hK⟩ := hc
  obtain ⟨h', a1, a2, a3⟩ := c_hold (Ly_sh2 hL) hK (sh_12 hL) z12 (by decide) (by decide)
  rw [hP] at a2
  have f := a3.2.1
  refine ⟨h', a1, ⟨ShF_Ly (Or.inr ⟨rfl, rfl⟩) a3 hL, ⟨by rw [f 9 (by decide) (by decide)]; exact z9, by rw [f 12 (by decide) (by decide)]; exact z12, by rw [f 14 (by decide) (by decide)]; exact z14⟩, ⟨by rw [f 7 (by decide) (by decide)]; exact t1, t2, by rw [f 10 (by decide) (by decide)]; exact t3⟩, by rw [f 12 (by decide) (by decide)]; exact hP, ShI_c (fun b hb => f b (by omega) (by omega)) hU, a2⟩, TF_sh2 a3⟩
theorem CI_clr8 (hc : CI L n T P U K h) : ∃ h', F_Sh_clear 29 h = some h' ∧ CI L n T P [] K h' ∧ TF h h' := by
  obtain ⟨hL, ⟨z9, z12, z14⟩, ⟨t1, t2, t3⟩, hP, hU, hK⟩ := hc
  obtain ⟨h', a1, a2, a3⟩ := c_shClear (Ly_sh8 hL) hU
  have f := a3.2.1
  exact ⟨h', a1, ⟨ShF_Ly (Or.inl ⟨rfl, rfl⟩) a3 hL, ⟨by rw [f 9 (by decide) (by decide)]; exact z9, by rw [f 12 (by decide) (by decide)]; exact z12, by rw [f 14 (by decide) (by decide)]; exact z14⟩, ⟨by rw [f 7 (by decide) (by decide)]; exact t1, t2, by rw [f 10 (by decide) (by decide)]; exact t3⟩, by rw [f 12 (by decide) (by decide)]; exact hP, a2, ShI_c (fun b hb => f b (by omega) (by omega)) hK⟩, TF_sh8 a3⟩
theorem CI_clr2 (hc : CI L n T P U K h) : ∃ h', F_Sh_clear 39 h = some h' ∧ CI L n T P U [] h' ∧ TF h h' := by
  obtain ⟨hL, ⟨z9, z12, z14⟩, ⟨t1, t2, t3⟩, hP, hU, hK⟩ := hc
  obtain ⟨h', a1, a2, a3⟩ := c_shClear (Ly_sh2 hL) hK
  have f := a3.2.1
  exact ⟨h', a1, ⟨ShF_Ly (Or.inr ⟨rfl, rfl⟩) a3 hL, ⟨by rw [f 9 (by decide) (by decide)]; exact z9, by rw [f 12 (by decide) (by decide)]; exact z12, by rw [f 14 (by decide) (by decide)]; exact z14⟩, ⟨by rw [f 7 (by decide) (by decide)]; exact t1, t2, by rw [f 10 (by decide) (by decide)]; exact t3⟩, by rw [f 12 (by decide) (by decide)]; exact hP, ShI_c (fun b hb => f b (by omega) (by omega)) hU, a2⟩, TF_sh2 a3⟩
theorem CI_h8 (hc : CI L n T P U K h) : gfd 3 2 h 29 = some (U.length : Int) := by rw [g_29 hc.1 (by decide), hc.2.2.2.2.1.2.1]
theorem CI_h2 (hc : CI L n T P U K h) : gfd 3 2 h 39 = some (K.length : Int) := by rw [g_39 hc.1 (by decide), hc.2.2.2.2.2.2.1]
def undoA (P : Nat → Int) : List (Nat → Int) → Int × (Nat → Int) × List (Nat → Int)
  | [] => (-2, P, [])
  | q :: U => (U.length, q, U)
theorem c_undo (hc : CI L n T P U K h) : ∃ h', F_Tb_undo 6 h = some ((undoA P U).1, h') ∧ CI L n T (undoA P U).2.1 (undoA P U).2.2 K h' ∧ TF h h' := by
  have hL := hc.1
  rw [q_Tb_undo _ _ (o_6 hL), p_6_5 hL, Option.bind_some, t29, CI_h8 hc, Option.bind_some]
  cases U with
  | nil =>
    rw [if_neg (by simp)]
    exact ⟨h, rfl, hc, TF_rf h⟩
  | cons q U =>
    obtain ⟨h', a1, a2, a3⟩ := CI_undo hc
    refine ⟨h', ?_, a2, a3⟩
    rw [if_pos (by simp; omega), Option.bind_some, p_6_1 hL, Option.bind_some, t11, t29, a1, Option.bind_some, p_6_5 a2.1, Option.bind_some, t29, CI_h8 a2, Option.bind_some]
    rfl
def keepA (P : Nat → Int) (K : List (Nat → Int)) : Int × List (Nat → Int) := if K.length < 2 then (K.length + 1, P :: K) else (-3, K)
theorem c_keep (hc : CI L n T P U K h) : ∃ h', F_Tb_keep 6 h = some ((keepA P K).1, h') ∧ CI L n T P U (keepA P K).2 h' ∧ TF h h' := by
  have hL := hc.1
  unfold keepA
  rw [q_Tb_keep _ _ (o_6 hL), p_6_6 hL, Option.bind_some, t39, CI_h2 hc, Option.bind_some]
  by_cases q : K.length < 2
  · obtain ⟨h', a1, a2, a3⟩ := CI_keep hc
    have e : (P :: K).take 2 = P :: K := List.take_of_length_le (by simp; omega)
    rw [e] at a2
    refine ⟨h', ?_, ?_, a3⟩
    · rw [if_pos (by omega), if_pos q, Option.bind_some, p_6_1 hL, Option.bind_some, t11, t39, p_11_0 hL, Option.bind_some, t12, a1, Option.bind_some, p_6_6 a2.1, Option.bind_some, t39, CI_h2 a2, Option.bind_some]
      rfl
    · rw [if_pos q]; exact a2
  · rw [if_neg (by omega), if_neg q]
    exact ⟨h, rfl, hc, TF_rf h⟩
def backA (P : Nat → Int) (U : List (Nat → Int)) : List (Nat → Int) → Int × (Nat → Int) × List (Nat → Int) × List (Nat → Int)
  | [] => (-2, P, U, [])
  | q :: K => (K.length, q, [], K)
theorem c_back (hc : CI L n T P U K h) : ∃ h', F_Tb_back 6 h = some ((backA P U K).1, h') ∧ CI L n T (backA P U K).2.1 (backA P U K).2.2.1 (backA P U K).2.2.2 h' ∧ TF h h' := by
  have hL := hc.1
  rw [q_Tb_back _ _ (o_6 hL), p_6_6 hL, Option.bind_some, t39, CI_h2 hc, Option.bind_some]
  cases K with
  | nil =>
    rw [if_neg (by simp)]
    exact ⟨h, rfl, hc, TF_rf h⟩
  | cons q K =>
    obtain ⟨h1, a1, a2, a3⟩ := CI_back hc
    obtain ⟨h', b1, b2, b3⟩ := CI_clr8 a2
    refine ⟨h', ?_, b2, TF_tr a3 b3⟩
    rw [if_pos (by simp; omega), Option.bind_some, p_6_1 hL, Option.bind_some, t11, t39, a1, Option.bind_some, p_6_5 a2.1, Option.bind_some, t29, b1, Option.bind_some, p_6_6 b2.1, Option.bind_some, t39, CI_h2 b2, Option.bind_some]
    rfl
/-- now is taken by the checker -/
theorem CI_take (hc : CI L n T P U K h) (hv : Val P) : ∃ h1, F_Ck_take 15 11 h = some h1 ∧ CkP L h1 P ∧ CkT h1 P ∧ CI L n T P U K h1 ∧ TF h h1 ∧ Fr [14, 15, 18, 19, 20, 21] h h1 := by
  have hP : h.2 (11 + 1) = P := hc.2.2.2.1
  obtain ⟨h1, a1, a2, a3, a4, a5⟩ := c_take (pa := 11) hc.1 (Or.inl rfl) (by rw [hP]; exact hv)
  rw [hP] at a2 a3
  have f : Fr [14, 15, 18, 19, 20, 21] h h1 := Fr_mono a4 (by simp)
  obtain ⟨b1, b2⟩ := CI_ck hc f a2.1 (by rw [a4.2 14 (by simp)]; exact hc.2.1.2.2)
  exact ⟨h1, a1, a2, a3, b1, b2, f⟩
theorem CI_ckF {h' : mH} (hc : CI L n T P U K h) (f : CkF h h') : CI L n T P U K h' ∧ TF h h' :=
  CI_ck hc (Fr_mono (CkF_Fr f) (by simp)) (CkF_Ly f hc.1) (by rw [f.2.1 14 (by decide) (by decide) (by decide)]; exact hc.2.1.2.2)
theorem p_6_3' (hL : Ly L h) : gfd 5 3 h 6 = some 15 := p_6_3 hL
noncomputable def checkA (P : Nat → Int) (l : Int) : Int := iteP (hasL P l) (iteP (sureS P l.toNat) (-4) (chkS P l.toNat).2) (-1)
noncomputable def reasonA (P : Nat → Int) (l : Int) : Int := iteP (hasL P l) (iteP (sureS P l.toNat) (-4) (chkS P l.toNat).1) (-1)
noncomputable def joinsA (P : Nat → Int) (l : Int) : Int := iteP (hasL P l) (jbS P l.toNat (pL P).toNat) (-1)
theorem c_check (hc : CI L n T P U K h) (hv : Val P) (l : Int) : ∃ h', F_Tb_check 6 l h = some (checkA P l, h') ∧ CI L n T P U K h' ∧ TF h h' := by
  have hL := hc.1
  have hg := CI_pg hc
  have hP : h.2 (11 + 1) = P := hc.2.2.2.1
  unfold checkA
  rw [q_Tb_check _ _ _ (o_6 hL), p_6_1 hL, Option.bind_some, t11, c_hasLabel hg, hP, Option.bind_some]
  dsimp only
  by_cases h1 : 0 ≤ l ∧ l < pL P
  · obtain ⟨m, rfl⟩ := n_of h1.1
    obtain ⟨g1, a1, a2, a3, a4, a5, -⟩ := CI_take hc hv
    obtain ⟨g2, b1, b2, b3, b4⟩ := c_isSure a2 a3 hv h1.2
    obtain ⟨c1, c2⟩ := CI_ckF a4 b2
    refine ⟨g2, ?_, c1, TF_tr a5 c2⟩
    rw [if_pos h1, if_pos (by decide), p_6_3 hL, Option.bind_some, p_6_1 hL, Option.bind_some, t11, t15, a1, Option.bind_some, p_6_3 a4.1, Option.bind_some, t15, b1, Option.bind_some, iteP_t h1, tn]
    dsimp only
    by_cases q : sureS P m
    · rw [b2i_t q, if_neg (by decide), iteP_t q]
    · rw [b2i_f q, if_pos rfl, p_6_3 c1.1, Option.bind_some, t15, g_15 c1.1 (by decide), Option.bind_some, b4 q, iteP_f q]
  · rw [if_neg h1, if_neg (by decide), iteP_f h1]
    exact ⟨h, rfl, hc, TF_rf h⟩
theorem c_reason (hc : CI L n T P U K h) (hv : Val P) (l : Int) : ∃ h', F_Tb_reason 6 l h = some (reasonA P l, h') ∧ CI L n T P U K h' ∧ TF h h' := by
  have hL := hc.1
  have hg := CI_pg hc
  have hP : h.2 (11 + 1) = P := hc.2.2.2.1
  unfold reasonA
  rw [q_Tb_reason _ _ _ (o_6 hL), p_6_1 hL, Option.bind_some, t11, c_hasLabel hg, hP, Option.bind_some]
  dsimp only
  by_cases h1 : 0 ≤ l ∧ l < pL P
  · obtain ⟨m, rfl⟩ := n_of h1.1
    obtain ⟨g1, a1, a2, a3, a4, a5, -⟩ := CI_take hc hv
    obtain ⟨g2, b1, b2, b3, b4⟩ := c_isSure a2 a3 hv h1.2
    obtain ⟨c1, c2⟩ := CI_ckF a4 b2
    refine ⟨g2, ?_, c1, TF_tr a5 c2⟩
    rw [if_pos h1, if_pos (by decide), p_6_3 hL, Option.bind_some, p_6_1 hL, Option.bind_some, t11, t15, a1, Option.bind_some, p_6_3 a4.1, Option.bind_some, t15, b1, Option.bind_some, iteP_t h1, tn]
    dsimp only
    by_cases q : sureS P m
    · rw [b2i_t q, if_neg (by decide), iteP_t q]
    · rw [b2i_f q, if_pos rfl, p_6_3 c1.1, Option.bind_some, t15, g_15 c1.1 (by decide), Option.bind_some, b3, iteP_f q]
  · rw [if_neg h1, if_neg (by decide), iteP_f h1]
    exact ⟨h, rfl, hc, TF_rf h⟩
theorem c_joins (hc : CI L n T P U K h) (hv : Val P) (l : Int) : ∃ h', F_Tb_joins 6 l h = some (joinsA P l, h') ∧ CI L n T P U K h' ∧ TF h h' := by
  have hL := hc.1
  have hg := CI_pg hc
  have hP : h.2 (11 + 1) = P := hc.2.2.2.1
  unfold joinsA
  rw [q_Tb_joins _ _ _ (o_6 hL), p_6_1 hL, Option.bind_some, t11, c_hasLabel hg, hP, Option.bind_some]
  dsimp only
  by_cases h1 : 0 ≤ l ∧ l < pL P
  · obtain ⟨m, rfl⟩ := n_of h1.1
    obtain ⟨g1, a1, a2, a3, a4, a5, -⟩ := CI_take hc hv
    obtain ⟨g2, b1, b2⟩ := c_joinBits a2 a3 hv h1.2
    obtain ⟨c1, c2⟩ := CI_ckF a4 b2
    refine ⟨g2, ?_, c1, TF_tr a5 c2⟩
    rw [if_pos h1, if_pos (by decide), p_6_3 hL, Option.bind_some, p_6_1 hL, Option.bind_some, t11, t15, a1, Option.bind_some, p_6_3 a4.1, Option.bind_some, t15, b1, Option.bind_some, iteP_t h1, tn]
  · rw [if_neg h1, if_neg (by decide), iteP_f h1]
    exact ⟨h, rfl, hc, TF_rf h⟩
theorem c_sure (hc : CI L n T P U K h) (hv : Val P) : ∃ h', F_Tb_sure 6 h = some (sbS P (pL P).toNat, h') ∧ CI L n T P U K h' ∧ TF h h' := by
  have hL := hc.1
  obtain ⟨g1, a1, a2, a3, a4, a5, -⟩ := CI_take hc hv
  obtain ⟨g2, b1, b2⟩ := c_sureBits a2 a3 hv
  obtain ⟨c1, c2⟩ := CI_ckF a4 b2
  refine ⟨g2, ?_, c1, TF_tr a5 c2⟩
  rw [q_Tb_sure _ _ (o_6 hL), p_6_3 hL, Option.bind_some, p_6_1 hL, Option.bind_some, t11, t15, a1, Option.bind_some, p_6_3 a4.1, Option.bind_some, t15, b1, Option.bind_some]
noncomputable def aheadA (P : Nat → Int) (l k w : Int) : Int :=
  iteP (hasL P l ∧ (0 ≤ k ∧ k ≤ pK P l.toNat) ∧ 0 ≤ w ∧ w ≤ 10)
    (iteP ((itS P l.toNat k.toNat).1 = 0) (if w < 4 then (itS P l.toNat k.toNat).2.2.1 w.toNat else if w = 4 then ((itS P l.toNat k.toNat).2.2.2.1.length : Int)
      else if w - 5 < ((itS P l.toNat k.toNat).2.2.2.1.length : Int) then (itS P l.toNat k.toNat).2.2.2.1.getD (w - 5).toNat 0 else -4) (-4)) (-1)
theorem c_ahead (hc : CI L n T P U K h) (hv : Val P) (l k w : Int) : ∃ h', F_Tb_ahead 6 l k w h = some (aheadA P l k w, h') ∧ CI L n T P U K h' ∧ TF h h' := by
  have hL := hc.1
  have hg := CI_pg hc
  have hP : h.2 (11 + 1) = P := hc.2.2.2.1
  unfold aheadA
  rw [q_Tb_ahead _ _ _ _ _ (o_6 hL), p_6_1 hL, Option.bind_some, t11, c_hasLabel hg, hP, Option.bind_some]
  dsimp only
  by_cases h1 : 0 ≤ l ∧ l < pL P
  · obtain ⟨m, rfl⟩ := n_of h1.1
    have hm : m < 4 := by have := hv.2.1; omega
    rw [if_pos h1, if_neg (by decide), tn]
    by_cases h2 : k < 0
    · rw [if_pos h2, iteP_f (by omega)]
      exact ⟨h, rfl, hc, TF_rf h⟩
    · obtain ⟨i, rfl⟩ := n_of (show 0 ≤ k by omega)
      rw [if_neg h2, p_6_1 hL, Option.bind_some, t11, c_size hg hm, Option.bind_some, hP]
      dsimp only
      by_cases h3 : pK P m < (i : Int)
      · rw [if_pos h3, iteP_f (by omega)]
        exact ⟨h, rfl, hc, TF_rf h⟩
      · rw [if_neg h3]
        by_cases h4 : w < 0
        · rw [if_pos h4, iteP_f (by omega)]
          exact ⟨h, rfl, hc, TF_rf h⟩
        · rw [if_neg h4]
          by_cases h5 : w ≤ 10
          · obtain ⟨g1, a1, a2, a3, a4, a5, -⟩ := CI_take hc hv
            obtain ⟨g2, b1, b2, b3⟩ := c_passes a2 a3 hv h1.2 (many := i) (by omega)
            obtain ⟨c1, c2⟩ := CI_ckF a4 b2
            refine ⟨g2, ?_, c1, TF_tr a5 c2⟩
            rw [if_pos h5, iteP_t ⟨h1, by omega, by omega⟩, p_6_3 hL, Option.bind_some, p_6_1 hL, Option.bind_some, t11, t15, a1, Option.bind_some, p_6_3 a4.1, Option.bind_some, t15, b1, Option.bind_some, tn]
            dsimp only
            by_cases q : (itS P m i).1 = 0
            · rw [b2i_t q, if_pos (by decide), iteP_t q]
              obtain ⟨v, rfl⟩ := n_of (show 0 ≤ w by omega)
              obtain ⟨⟨r1, r2, r3, r4, r5⟩, -⟩ := id b3
              by_cases h6 : 4 ≤ (v : Int)
              · rw [if_pos h6, if_neg (show ¬ (v : Int) < 4 by omega)]
                by_cases h7 : (v : Int) = 4
                · rw [if_neg (Decidable.not_not.mpr h7), if_pos h7, p_6_3 c1.1, Option.bind_some, t15, g_15 c1.1 (by decide), Option.bind_some, r2]
                · obtain ⟨u, hu⟩ : ∃ u : Nat, (v : Int) - 5 = u := n_of (by omega)
                  have e5 : w32 ((v : Int) - 5) = (u : Int) := by rw [hu]; unfold w32; omega
                  rw [if_pos h7, if_neg h7, p_6_3 c1.1, Option.bind_some, t15, g_15 c1.1 (by decide), Option.bind_some, r2, e5, hu, tn]
                  clear e5
                  by_cases h8 : u < (itS P m i).2.2.2.1.length
                  · rw [if_neg (by omega), if_pos (by omega), Option.bind_some, t15, c_fromTop c1.1 b3.1 h8, Option.bind_some]
                  · rw [if_pos (by omega), if_neg (by omega)]
              · have hv4 : v < 4 := by omega
                rw [if_neg h6, if_pos (show (v : Int) < 4 by omega), p_6_3 c1.1, Option.bind_some, t15, c_register c1.1 hv4, Option.bind_some, r1 v hv4, tn]
            · rw [b2i_f q, if_neg (by decide), iteP_f q]
          · rw [if_neg h5, iteP_f (by omega)]
            exact ⟨h, rfl, hc, TF_rf h⟩
  · rw [if_neg h1, if_pos rfl, iteP_f (fun q => h1 q.1)]
    exact ⟨h, rfl, hc, TF_rf h⟩
end Tb

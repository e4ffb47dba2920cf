/-! THE MODEL: check, reason, ahead, sure, joins -/
def Mq (h h' : mH) : Prop := h'.1 = h.1 ∧ (∀ a, a ≠ 43 → a ≠ 53 → a ≠ 55 → a ≠ 56 → h'.2 a = h.2 a) ∧ (∀ j, (j < 24 ∨ 28 ≤ j) → h'.2 43 j = h.2 43 j) ∧ ∀ j, j < 1320 → h'.2 53 j = h.2 53 j
theorem Mq_s {h h' : mH} (f : Ms h h') : Mq h h' := ⟨f.1, fun a h1 h2 h3 h4 => f.2.1 a h1 h3 h4, f.2.2, fun j hj => by rw [f.2.1 53 (by decide) (by decide) (by decide)]⟩
theorem Mq_tr {h h1 h2 : mH} (a : Mq h h1) (b : Mq h1 h2) : Mq h h2 := ⟨b.1.trans a.1, fun k k1 k2 k3 k4 => (b.2.1 k k1 k2 k3 k4).trans (a.2.1 k k1 k2 k3 k4), fun j hj => (b.2.2.1 j hj).trans (a.2.2.1 j hj), fun j hj => (b.2.2.2 j hj).trans (a.2.2.2 j hj)⟩
theorem Mq_rf (h : mH) : Mq h h := Mq_s (Ms_rf h)
theorem Mq_Ly {L : Nat} {h h' : mH} (f : Mq h h') (hL : LyM L h) : LyM L h' := by
  refine ⟨f.1.trans hL.1, fun a j v e => ?_⟩
  by_cases q : a = 43
  · subst q
    by_cases w : j < 24 ∨ 28 ≤ j
    · rw [f.2.2.1 j w]; exact hL.2 43 j v e
    · exfalso
      have : j = 24 ∨ j = 25 ∨ j = 26 ∨ j = 27 := by omega
      rcases this with z | z | z | z <;> subst z <;> cases e
  · by_cases q5 : a = 55
    · subst q5; cases e
    · by_cases q6 : a = 56
      · subst q6; cases e
      · by_cases q3 : a = 53
        · subst q3; cases e
        · rw [f.2.1 a q q3 q5 q6]; exact hL.2 a j v e
section Md
variable {L n : Nat} {T P : Nat → Int} {U K : List (Nat → Int)} {h : mH}
theorem MI_q {h' : mH} (hm : MI L n T P U K h) (f : Mq h h') : MI L n T P U K h' ∧ MFm h h' := by
  obtain ⟨hL, ⟨t1, t2, t3, t4⟩, hS, h0, ⟨u1, u2, u3⟩, k1, k2, k3⟩ := hm
  have hL' := Mq_Ly f hL
  obtain ⟨f1, f2, f3, f4⟩ := f
  refine ⟨⟨hL', ⟨by rw [f3 17 (by decide)]; exact t1, t2, by rw [f2 54 (by decide) (by decide) (by decide) (by decide)]; exact t3, t4⟩, Sta_c (f3 0 (by decide)) (f3 3 (by decide)) (fun a ha => f2 a (by omega) (by omega) (by omega) (by omega)) hS, Sl_eq (fun j h1 h2 => f4 j (by omega)) h0, ⟨by rw [f3 15 (by decide)]; exact u1, u2, fun i Q hq => ?_⟩, by rw [f3 16 (by decide)]; exact k1, k2, fun i Q hq => ?_⟩, f1, fun a ha => f2 a (by omega) (by omega) (by omega) (by omega)⟩
  · have hi := (List.getElem?_eq_some_iff.mp hq).1
    exact Sl_eq (fun j h1 h2 => f4 j (by omega)) (u3 i Q hq)
  · have hi := (List.getElem?_eq_some_iff.mp hq).1
    exact Sl_eq (fun j h1 h2 => f4 j (by omega)) (k3 i Q hq)
theorem MI_K (hm : MI L n T P U K h) : MK L 0 P h := ⟨hm.1, hm.2.2.1, hm.2.2.2.1, by decide⟩
theorem m_check (hm : MI L n T P U K h) (hv : Val P) (l : Int) : ∃ h', F_Md_check 43 l h = some (checkA P l, h') ∧ MI L n T P U K h' ∧ MFm h h' := by
  obtain ⟨hL, -, hS, h0, -⟩ := id hm
  have v2 := hv.2.1
  unfold checkA
  rw [q_Md_check _ _ _ (o_43 hL), m_isLabel hL hS (by omega), Option.bind_some]
  dsimp only
  by_cases q : hasL P l
  · obtain ⟨m, rfl⟩ := n_of q.1
    obtain ⟨h1, a1, a2, a3, a4⟩ := m_checks9 (MI_K hm) hv q.2
    rw [show ((0 : Nat) : Int) = 0 from rfl] at a1
    obtain ⟨m1, m2⟩ := MI_q hm (Mq_s a2)
    rw [b2i_t q, if_pos (by decide), iteP_t q, tn, a1, Option.bind_some, g_43 m1.1 (by decide), Option.bind_some, a4]
    refine ⟨h1, ?_, m1, m2⟩
    by_cases w : sureS P m
    · rw [iteP_t w, if_pos (show (chkS P m).1 = 0 from w)]
    · rw [iteP_f w, if_neg (show ¬ (chkS P m).1 = 0 from w)]
  · rw [b2i_f q, if_neg (by decide), iteP_f q]
    exact ⟨h, rfl, hm, MFm_rf h⟩
theorem m_reason (hm : MI L n T P U K h) (hv : Val P) (l : Int) : ∃ h', F_Md_reason 43 l h = some (reasonA P l, h') ∧ MI L n T P U K h' ∧ MFm h h' := by
  obtain ⟨hL, -, hS, h0, -⟩ := id hm
  have v2 := hv.2.1
  unfold reasonA
  rw [q_Md_reason _ _ _ (o_43 hL), m_isLabel hL hS (by omega), Option.bind_some]
  dsimp only
  by_cases q : hasL P l
  · obtain ⟨m, rfl⟩ := n_of q.1
    obtain ⟨h1, a1, a2, a3, a4⟩ := m_checks9 (MI_K hm) hv q.2
    rw [show ((0 : Nat) : Int) = 0 from rfl] at a1
    obtain ⟨m1, m2⟩ := MI_q hm (Mq_s a2)
    rw [b2i_t q, if_pos (by decide), iteP_t q, tn, a1, Option.bind_some, g_43 m1.1 (by decide), Option.bind_some, a3]
    refine ⟨h1, ?_, m1, m2⟩
    by_cases w : sureS P m
    · rw [iteP_t w, if_neg (fun z => z w)]
    · rw [iteP_f w, if_pos (show (chkS P m).1 ≠ 0 from w), Option.bind_some]
  · rw [b2i_f q, if_neg (by decide), iteP_f q]
    exact ⟨h, rfl, hm, MFm_rf h⟩
theorem m_ahead (hm : MI L n T P U K h) (hv : Val P) (l k w : Int) : ∃ h', F_Md_ahead 43 l k w h = some (aheadA P l k w, h') ∧ MI L n T P U K h' ∧ MFm h h' := by
  obtain ⟨hL, -, hS, h0, -⟩ := id hm
  have v2 := hv.2.1
  unfold aheadA
  rw [q_Md_ahead _ _ _ _ _ (o_43 hL), m_isLabel hL hS (by omega), Option.bind_some]
  dsimp only
  by_cases q : hasL P l
  · obtain ⟨m, rfl⟩ := n_of q.1
    have m4 : m < 4 := by have := q.2; omega
    have c5 := (h0 m m4).2.2.1
    rw [b2i_t q, if_neg (by decide), tn, many0 hL m4 c5, Option.bind_some]
    dsimp only
    rw [c_in, Option.bind_some]
    dsimp only
    by_cases p : 0 ≤ k ∧ k ≤ pK P m
    · rw [b2i_t p, if_neg (by decide), c_in, Option.bind_some]
      dsimp only
      by_cases r : 0 ≤ w ∧ w ≤ 10
      · obtain ⟨i, rfl⟩ := n_of p.1
        obtain ⟨v, rfl⟩ := n_of r.1
        obtain ⟨h1, a1, a2, ⟨r1, r2, r3, r4, r5⟩, a4, a5⟩ := m_checksk (MI_K hm) hv q.2 p.2
        rw [show ((0 : Nat) : Int) = 0 from rfl] at a1
        obtain ⟨m1, m2⟩ := MI_q hm (Mq_s a2)
        have L1 := m1.1
        have nn := (itS_01 P m i).2
        rw [b2i_t r, if_pos (by decide), iteP_t (p := hasL P (m : Int) ∧ (0 ≤ (i : Int) ∧ (i : Int) ≤ pK P m) ∧ 0 ≤ (v : Int) ∧ (v : Int) ≤ 10) ⟨q, p, r⟩, tn, a1, Option.bind_some, g_43 L1 (by decide), Option.bind_some, a5]
        refine ⟨h1, ?_, m1, m2⟩
        by_cases z : (itS P m i).1 = 0
        · rw [if_pos (by omega), iteP_t z]
          by_cases v4 : (v : Int) < 4
          · have v4' : v < 4 := by omega
            rw [if_neg (by omega), if_pos v4, p_43_22 L1, Option.bind_some, ld55 L1 v4', Option.bind_some, r1 v v4', tn]
          · rw [if_pos (by omega), if_neg v4]
            by_cases e4 : (v : Int) = 4
            · rw [if_neg (Decidable.not_not.mpr e4), if_pos e4, g_43 L1 (by decide), Option.bind_some, r2]
            · obtain ⟨u, hu⟩ : ∃ u : Nat, v = u + 5 := ⟨v - 5, by omega⟩
              subst hu
              have e5 : w32 (((u + 5 : Nat) : Int) - 5) = (u : Int) := by rw [w32_id (by omega) (by omega)]; omega
              have e6 : ((u + 5 : Nat) : Int) - 5 = (u : Int) := by clear e5; omega
              rw [if_pos e4, if_neg e4, g_43 L1 (by decide), Option.bind_some, r2, e5, e6, tn]
              clear e5 e6
              by_cases s : (u : Int) < ((itS P m i).2.2.2.1.length : Int)
              · have s' : u < (itS P m i).2.2.2.1.length := by omega
                have p2 : (itS P m i).2.2.2.1.length - 1 - u < 8 := by omega
                rw [if_neg (by omega), if_pos s, p_43_23 L1, Option.bind_some, Option.bind_some, ix6 s' (by omega), ld56 L1 p2, Option.bind_some, r4 u s']
              · rw [if_pos (by omega), if_neg s]
        · rw [if_neg (by omega), iteP_f z]
      · rw [b2i_f r, if_neg (by decide), iteP_f (fun z => r z.2.2)]
        exact ⟨h, rfl, hm, MFm_rf h⟩
    · rw [b2i_f p, if_pos rfl, iteP_f (fun z => p z.2.1)]
      exact ⟨h, rfl, hm, MFm_rf h⟩
  · rw [b2i_f q, if_pos rfl, iteP_f (fun z => q z.1)]
    exact ⟨h, rfl, hm, MFm_rf h⟩
end Md
section Mk
variable {L b : Nat} {Q : Nat → Int} {h : mH}
theorem m_isSure (hk : MK L b Q h) (hv : Val Q) {l : Nat} (hl : (l : Int) < pL Q) : ∃ h', F_Md_isSure 43 (b : Int) (l : Int) h = some (b2i (sureS Q l), h') ∧ Ms h h' := by
  obtain ⟨h1, a1, a2, a3, a4⟩ := m_checks9 hk hv hl
  have L1 := Ms_Ly a2 hk.1
  refine ⟨h1, ?_, a2⟩
  rw [q_Md_isSure _ _ _ _ (o_43 hk.1), a1, Option.bind_some, g_43 L1 (by decide), Option.bind_some, a3]
  by_cases w : sureS Q l
  · rw [if_neg (fun z => z w), b2i_t w]
  · rw [if_pos (show (chkS Q l).1 ≠ 0 from w), b2i_f w]
theorem m_so4 (hv : Val Q) {N : Nat} (hN : pL Q = N) : ∀ (m k : Nat) (h : mH), k + m = N → MK L b Q h → ∃ h', B_Md_sureOnes_4 43 (b : Int) (sbS Q k) (k : Int) h = some (sbS Q N, h') ∧ Ms h h'
  | 0, k, h, e, hk => by
    have : k = N := by omega
    subst this
    refine ⟨h, ?_, Ms_rf h⟩
    rw [q_Md_sureOnes_4, g_43 hk.1 (by decide), Option.bind_some, hk.2.1.2.1, if_pos (by omega)]
  | m + 1, k, h, e, hk => by
    have v2 := hv.2.1
    obtain ⟨h1, a1, a2⟩ := m_isSure hk hv (l := k) (by omega)
    obtain ⟨h', z1, z2⟩ := m_so4 hv hN m (k + 1) h1 (by omega) (Ms_K a2 hk)
    have k1 : k < 1000 := by omega
    have k4 : k ≤ 4 := by omega
    refine ⟨h', ?_, Ms_tr a2 z2⟩
    rw [q_Md_sureOnes_4, g_43 hk.1 (by decide), Option.bind_some, hk.2.1.2.1, if_neg (by omega), a1, Option.bind_some]
    dsimp only
    rw [← z1]
    by_cases w : sureS Q k
    · rw [b2i_t w, if_neg (by decide), q_Md_sureOnes_29, w32_nn k k1, show sbS Q (k + 1) = ior (sbS Q k) (ishl 1 k) from iteP_t w _ _]
    · rw [b2i_f w, if_pos rfl, q_Md_sureOnes_29, w32_nn k k1, show sbS Q (k + 1) = sbS Q k from iteP_f w _ _, io0 (sbS_b Q k k4)]
theorem m_sureOnes (hk : MK L b Q h) (hv : Val Q) : ∃ h', F_Md_sureOnes 43 (b : Int) h = some (sbS Q (pL Q).toNat, h') ∧ Ms h h' := by
  have v2 := hv.2.1
  obtain ⟨h', z1, z2⟩ := m_so4 (b := b) (L := L) hv (N := (pL Q).toNat) (by omega) (pL Q).toNat 0 h (by omega) hk
  exact ⟨h', by rw [q_Md_sureOnes _ _ _ (o_43 hk.1)]; exact z1, z2⟩
theorem jbS_b (P : Nat → Int) (l : Nat) : ∀ n : Nat, n ≤ 4 → B16 (jbS P l n)
  | 0, _ => by unfold jbS B16; decide
  | n + 1, hn => by
    have ih := jbS_b P l n (by omega)
    unfold jbS
    by_cases q : jumpS P (pW P l) (skF P l 0) (pO P l) n = 0
    · rw [iteP_t q]; exact io16 ih (sh4 (by omega) (by omega))
    · rw [iteP_f q]; exact ih
theorem m_jo14 (hv : Val Q) {N l : Nat} (hN : pL Q = N) (hl : (l : Int) < pL Q) : ∀ (m k : Nat) (h : mH), k + m = N → MK L 0 Q h → ∃ h', B_Md_joins_14 43 (l : Int) (jbS Q l k) (k : Int) h = some (jbS Q l N, h') ∧ Ms h h'
  | 0, k, h, e, hk => by
    have : k = N := by omega
    subst this
    refine ⟨h, ?_, Ms_rf h⟩
    rw [q_Md_joins_14, g_43 hk.1 (by decide), Option.bind_some, hk.2.1.2.1, if_pos (by omega)]
  | m + 1, k, h, e, hk => by
    have v2 := hv.2.1
    obtain ⟨h1, a1, a2, a3⟩ := m_stands hk hv hl
    rw [show ((0 : Nat) : Int) = 0 from rfl] at a1
    have k1' := Ms_K a2 hk
    have hj := m_jumps k1' hv a3 (hv.2.2.2.2 l hl).2.2.2.1 (fun r hr => Or.inl ((hv.2.2.2.2 l hl).1 r hr)) (skF_v hv hl) (l := k) (by omega)
    rw [show ((0 : Nat) : Int) = 0 from rfl] at hj
    obtain ⟨h', z1, z2⟩ := m_jo14 hv hN hl m (k + 1) h1 (by omega) k1'
    have k1 : k < 1000 := by omega
    have k4 : k ≤ 4 := by omega
    refine ⟨h', ?_, Ms_tr a2 z2⟩
    rw [q_Md_joins_14, g_43 hk.1 (by decide), Option.bind_some, hk.2.1.2.1, if_neg (by omega), a1, Option.bind_some, hj, Option.bind_some]
    dsimp only
    rw [← z1]
    by_cases w : jumpS Q (pW Q l) (skF Q l 0) (pO Q l) k = 0
    · rw [if_neg (fun z => z w), q_Md_joins_45, w32_nn k k1, show jbS Q l (k + 1) = ior (jbS Q l k) (ishl 1 k) from iteP_t w _ _]
    · rw [if_pos w, q_Md_joins_45, w32_nn k k1, show jbS Q l (k + 1) = jbS Q l k from iteP_f w _ _, io0 (jbS_b Q l k k4)]
end Mk
section Md
variable {L n : Nat} {T P : Nat → Int} {U K : List (Nat → Int)} {h : mH}
theorem m_sure (hm : MI L n T P U K h) (hv : Val P) : ∃ h', F_Md_sure 43 h = some (sbS P (pL P).toNat, h') ∧ MI L n T P U K h' ∧ MFm h h' := by
  obtain ⟨h1, a1, a2⟩ := m_sureOnes (MI_K hm) hv
  rw [show ((0 : Nat) : Int) = 0 from rfl] at a1
  obtain ⟨m1, m2⟩ := MI_q hm (Mq_s a2)
  exact ⟨h1, by rw [q_Md_sure _ _ (o_43 hm.1), a1, Option.bind_some], m1, m2⟩
theorem m_joins (hm : MI L n T P U K h) (hv : Val P) (l : Int) : ∃ h', F_Md_joins 43 l h = some (joinsA P l, h') ∧ MI L n T P U K h' ∧ MFm h h' := by
  obtain ⟨hL, -, hS, h0, -⟩ := id hm
  have v2 := hv.2.1
  unfold joinsA
  rw [q_Md_joins _ _ _ (o_43 hL), m_isLabel hL hS (by omega), Option.bind_some]
  dsimp only
  by_cases q : hasL P l
  · obtain ⟨m, rfl⟩ := n_of q.1
    obtain ⟨h1, a1, a2⟩ := m_jo14 (L := L) hv (N := (pL P).toNat) (by omega) q.2 (pL P).toNat 0 h (by omega) (MI_K hm)
    obtain ⟨m1, m2⟩ := MI_q hm (Mq_s a2)
    rw [b2i_t q, if_pos (by decide), iteP_t q, tn]
    exact ⟨h1, a1, m1, m2⟩
  · rw [b2i_f q, if_neg (by decide), iteP_f q]
    exact ⟨h, rfl, hm, MFm_rf h⟩
end Md

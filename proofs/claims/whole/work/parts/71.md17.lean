/-! THE MODEL: a block is checked -/
theorem jumpS_nn (P rg : Nat → Int) (sk : List Int) (op : Int) (l : Nat) : 0 ≤ jumpS P rg sk op l := by
  unfold jumpS
  by_cases q : ∀ r : Nat, r < 4 → enough P (rg r) (pW P l r)
  · rw [iteP_t q]
    by_cases w : hsuf sk.length op (pH P l) (pO P l) ∧ ∀ i : Nat, (i : Int) < pH P l → enough P (sk.getD i 0) (pT P l i)
    · rw [iteP_t w]; decide
    · rw [iteP_f w]; decide
  · rw [iteP_f q]; decide
theorem iteP_nn {p : Prop} {x y : Int} (hx : 0 ≤ x) (hy : 0 ≤ y) : 0 ≤ iteP p x y := by
  by_cases q : p
  · rw [iteP_t q]; exact hx
  · rw [iteP_f q]; exact hy
theorem iteP_1 {α : Type} {p : Prop} {x y : Int × α} (hx : 0 ≤ x.1) (hy : 0 ≤ y.1) : 0 ≤ (iteP p x y).1 := by
  by_cases q : p
  · rw [iteP_t q]; exact hx
  · rw [iteP_f q]; exact hy
theorem stepS_nn (P rg : Nat → Int) (sk : List Int) (op c : Int) (x y z : Nat) : 0 ≤ (stepS P rg sk op c x y z).1 := by
  unfold stepS
  by_cases c0 : c = 0
  · rw [if_pos c0]; exact Int.le_refl 0
  rw [if_neg c0]
  by_cases c1 : c = 1
  · rw [if_pos c1]; exact Int.le_refl 0
  rw [if_neg c1]
  by_cases c2 : c = 2
  · rw [if_pos c2]; exact iteP_nn (by decide) (by decide)
  rw [if_neg c2]
  by_cases c3 : c = 3
  · rw [if_pos c3]; exact Int.le_refl 0
  rw [if_neg c3]
  by_cases c4 : c = 4
  · rw [if_pos c4]; exact iteP_1 (iteP_1 (iteP_1 (Int.le_refl 0) (show (0 : Int) ≤ 4 by decide)) (show (0 : Int) ≤ 3 by decide)) (show (0 : Int) ≤ 2 by decide)
  rw [if_neg c4]
  by_cases c5 : c = 5
  · rw [if_pos c5]; exact iteP_1 (iteP_1 (Int.le_refl 0) (show (0 : Int) ≤ 3 by decide)) (show (0 : Int) ≤ 2 by decide)
  rw [if_neg c5]
  by_cases c6 : c = 6
  · rw [if_pos c6]
    by_cases q : sk.length < 6
    · rw [if_pos q]; exact Int.le_refl 0
    · rw [if_neg q]; exact (by decide : (0 : Int) ≤ 5)
  rw [if_neg c6]
  by_cases c7 : c = 7
  · rw [if_pos c7]
    cases sk with
    | nil => exact (by decide : (0 : Int) ≤ 5)
    | cons v r => exact Int.le_refl 0
  rw [if_neg c7]
  by_cases c8 : c = 8
  · rw [if_pos c8]; exact Int.le_refl 0
  rw [if_neg c8]
  by_cases c9 : c = 9
  · rw [if_pos c9]; exact jumpS_nn _ _ _ _ _
  rw [if_neg c9]
  by_cases c10 : c = 10
  · rw [if_pos c10]; exact iteP_nn (jumpS_nn _ _ _ _ _) (by decide)
  rw [if_neg c10]
  by_cases c11 : c = 11
  · rw [if_pos c11]; exact jumpS_nn _ _ _ _ _
  rw [if_neg c11]
  by_cases c12 : c = 12
  · rw [if_pos c12]; exact iteP_nn (jumpS_nn _ _ _ _ _) (by decide)
  rw [if_neg c12]
  exact iteP_nn (by decide) (by decide)
theorem itS_01 (P : Nat → Int) (l : Nat) : ∀ k : Nat, ((itS P l k).2.1 = 0 ∨ (itS P l k).2.1 = 1) ∧ 0 ≤ (itS P l k).1
  | 0 => ⟨Or.inl rfl, Int.le_refl 0⟩
  | k + 1 => by
    obtain ⟨i1, i2⟩ := itS_01 P l k
    unfold itS
    by_cases h1 : (itS P l k).1 ≠ 0
    · rw [iteP_t h1]; exact ⟨i1, i2⟩
    · rw [iteP_f h1]
      by_cases h2 : (itS P l k).2.1 ≠ 0
      · rw [iteP_t h2]; exact ⟨i1, (by decide : (0 : Int) ≤ 9)⟩
      · rw [iteP_f h2]
        refine ⟨?_, stepS_nn _ _ _ _ _ _ _ _⟩
        by_cases q : endS (pC P l k 0)
        · exact Or.inr (iteP_t q _ _)
        · exact Or.inl ((iteP_f q _ _).trans (Decidable.not_not.mp h2))
section Mk
variable {L b : Nat} {Q rg : Nat → Int} {sk : List Int} {op : Int} {h : mH}
theorem m_ends (c : Int) (h : mH) : F_Md_ends c h = some (b2i (endS c), h) := by
  rw [q_Md_ends]
  by_cases q : c = 9
  · rw [if_pos q, q_Md_ends_12, b2i_t (p := endS c) (Or.inl q)]
  · rw [if_neg q]
    by_cases w : c ≤ 10
    · rw [if_pos w, b2i_f (p := endS c) (by unfold endS; omega)]
    · rw [if_neg w, q_Md_ends_12, b2i_t (p := endS c) (Or.inr (by omega))]
theorem m_ch74 (hk : MK L b Q h) {l k : Nat} (hl : l < 4) (hk6 : k < 6) (to n : Int) {x s : Int} (hx : x = 0 ∨ x = 1) (hs0 : 0 ≤ s) :
    B_Md_checks_74 43 (b : Int) (l : Int) to n x (k : Int) s 43 h = B_Md_checks_31 43 (b : Int) (l : Int) to n (iteP (x ≠ 0) 1 (iteP (endS (pC Q l k 0)) 1 0)) ((k + 1 : Nat) : Int) (mw (mw h 43 27 s) 43 26 (if s = 0 then -4 else (k : Int))) := by
  obtain ⟨hL, hS, hs, hb⟩ := hk
  have L1 : LyM L (mw h 43 27 s) := LyM_mw hL rfl
  have k1 : k < 1000 := by omega
  have p0 : b + 30 * l + 6 + 4 * k < 1440 := by omega
  have c0 := Sl_pc hs hl hk6 (p := 0) (by decide)
  rw [Nat.add_zero] at c0
  have hsp := m_spot hb hl (Nat.le_of_lt hk6) (mw h 43 27 s)
  have r53 : (mw h 43 27 s).2 53 = h.2 53 := mw_o _ _ _ (by decide)
  have f105 : ∀ y : Int, B_Md_checks_105 43 (b : Int) (l : Int) to n x (k : Int) y (mw h 43 27 s) = B_Md_checks_31 43 (b : Int) (l : Int) to n y ((k + 1 : Nat) : Int) (mw (mw h 43 27 s) 43 26 (if s = 0 then -4 else (k : Int))) := fun y => by
    rw [q_Md_checks_105, g_43 L1 (by decide), Option.bind_some, mw_s]
    by_cases q : s = 0
    · rw [if_pos (by omega), if_pos q, q_Md_checks_122, f_43 L1 (by decide), Option.bind_some, w32_nn k k1]
    · rw [if_neg (by omega), if_neg q, q_Md_checks_122, f_43 L1 (by decide), Option.bind_some, w32_nn k k1]
  rw [q_Md_checks_74, f_43 hL (by decide), Option.bind_some]
  by_cases q : x ≠ 0
  · rw [if_pos q, iteP_t q, q_Md_checks_100, f105]
  · rw [if_neg q, iteP_f q, p_43_14 L1, Option.bind_some, hsp, Option.bind_some]
    dsimp only
    rw [ld53 L1 p0, Option.bind_some, r53, c0, m_ends, Option.bind_some]
    dsimp only
    by_cases w : endS (pC Q l k 0)
    · rw [b2i_t w, if_neg (by decide), iteP_t w, q_Md_checks_100, f105]
    · rw [b2i_f w, if_pos rfl, iteP_f w, f105]
def MkI (h : mH) (P : Nat → Int) (l k : Nat) : Prop := MkR h (itS P l k).2.2.1 (itS P l k).2.2.2.1 (pO P l) ∧ h.2 43 26 = (if (itS P l k).1 = 0 then -4 else (itS P l k).2.2.2.2) ∧ h.2 43 27 = (itS P l k).1
theorem m_ch31 (hv : Val Q) {l M : Nat} (hl : (l : Int) < pL Q) {to : Int} (hM : (M : Int) ≤ pK Q l) (hT : (M : Int) ≤ to) (hor : (M : Int) = pK Q l ∨ (M : Int) = to) : ∀ (m k : Nat) (h : mH), k + m = M → MK L b Q h → MkI h Q l k →
    ∃ h' k', B_Md_checks_31 43 (b : Int) (l : Int) to (pK Q l) (itS Q l k).2.1 (k : Int) h = B_Md_checks_131 43 (b : Int) (l : Int) to (pK Q l) (itS Q l M).2.1 k' h' ∧ Ms h h' ∧ MkI h' Q l M
  | 0, k, h, e, hk, hi => by
    have : k = M := by omega
    subst this
    refine ⟨h, (k : Int), ?_, Ms_rf h, hi⟩
    rw [q_Md_checks_31]
    by_cases q : pK Q l ≤ (k : Int)
    · rw [if_pos q]
    · rw [if_neg q, if_pos (by omega)]
  | m + 1, k, h, e, hk, hi => by
    obtain ⟨hL, hS, hs, hb⟩ := id hk
    obtain ⟨i1, i2, i3⟩ := id hi
    have v2 := hv.2.1
    have l4 : l < 4 := by omega
    have vk := (hv.2.2.2.2 l hl).2.2.2.2.1
    have vo := (hv.2.2.2.2 l hl).2.2.2.1
    have k6 : k < 6 := by omega
    have q1 : ¬ pK Q l ≤ (k : Int) := by omega
    have q2 : ¬ to ≤ (k : Int) := by omega
    have hkk : (k : Int) < pK Q l := by omega
    rw [q_Md_checks_31, if_neg q1, if_neg q2, g_43 hL (by decide), Option.bind_some, i3]
    by_cases h1 : (itS Q l k).1 ≠ 0
    · have es : itS Q l M = itS Q l k := by
        have := itS_stop h1 (m + 1)
        rw [show k + (m + 1) = M by omega] at this
        exact this
      refine ⟨h, (k : Int), ?_, Ms_rf h, ?_⟩
      · rw [if_pos h1, es]
      · unfold MkI
        rw [es]
        exact hi
    · have eit : itS Q l (k + 1) = iteP ((itS Q l k).2.1 ≠ 0) (9, (itS Q l k).2.1, (itS Q l k).2.2.1, (itS Q l k).2.2.2.1, (k : Int))
          ((stepS Q (itS Q l k).2.2.1 (itS Q l k).2.2.2.1 (pO Q l) (pC Q l k 0) (pC Q l k 1).toNat (pC Q l k 2).toNat (pC Q l k 3).toNat).1, iteP (endS (pC Q l k 0)) 1 (itS Q l k).2.1,
           (stepS Q (itS Q l k).2.2.1 (itS Q l k).2.2.2.1 (pO Q l) (pC Q l k 0) (pC Q l k 1).toNat (pC Q l k 2).toNat (pC Q l k 3).toNat).2.1,
           (stepS Q (itS Q l k).2.2.1 (itS Q l k).2.2.2.1 (pO Q l) (pC Q l k 0) (pC Q l k 1).toNat (pC Q l k 2).toNat (pC Q l k 3).toNat).2.2, (k : Int)) := iteP_f h1 _ _
      have fin : ∀ (s : Int) (h2 : mH), s = (itS Q l (k + 1)).1 → (itS Q l (k + 1)).2.2.2.2 = (k : Int) → iteP ((itS Q l k).2.1 ≠ 0) 1 (iteP (endS (pC Q l k 0)) 1 0) = (itS Q l (k + 1)).2.1 → Ms h h2 → MkR h2 (itS Q l (k + 1)).2.2.1 (itS Q l (k + 1)).2.2.2.1 (pO Q l) →
          ∃ h' k', B_Md_checks_74 43 (b : Int) (l : Int) to (pK Q l) (itS Q l k).2.1 (k : Int) s 43 h2 = B_Md_checks_131 43 (b : Int) (l : Int) to (pK Q l) (itS Q l M).2.1 k' h' ∧ Ms h h' ∧ MkI h' Q l M := by
        intro s h2 a1 a2 a3 a4 a5
        have hk2 := Ms_K a4 hk
        have f1 := Ms_43 h2 (j := 27) s (by decide) (by decide)
        have f2 := Ms_43 (mw h2 43 27 s) (j := 26) (if s = 0 then -4 else (k : Int)) (by decide) (by decide)
        have i' : MkI (mw (mw h2 43 27 s) 43 26 (if s = 0 then -4 else (k : Int))) Q l (k + 1) := by
          refine ⟨MkR_oth _ (by decide) (by decide) (MkR_oth _ (by decide) (by decide) a5), ?_, ?_⟩
          · rw [mw_s, ← a1, a2]
          · rw [mw_d _ _ (by decide), mw_s, a1]
        obtain ⟨h', k', z1, z2, z3⟩ := m_ch31 hv hl hM hT hor m (k + 1) _ (by omega) (Ms_K f2 (Ms_K f1 hk2)) i'
        refine ⟨h', k', ?_, Ms_tr a4 (Ms_tr f1 (Ms_tr f2 z2)), z3⟩
        rw [m_ch74 hk2 l4 k6 to _ (itS_01 Q l k).1 (by rw [a1]; exact (itS_01 Q l (k + 1)).2), a3, z1]
      rw [if_neg h1]
      by_cases h2 : (itS Q l k).2.1 = 0
      · have hsp := m_spot hb l4 (Nat.le_of_lt k6) h
        obtain ⟨w1, w2⟩ := itS_v hv hl k (Int.le_of_lt hkk)
        obtain ⟨h3, g1, g2, g3⟩ := m_goes hk hv i1 vo w1 w2 hl hkk
        have e2 : itS Q l (k + 1) = _ := eit.trans (iteP_f (fun q => q h2) _ _)
        rw [if_pos h2, hsp, Option.bind_some]
        dsimp only
        rw [g1, Option.bind_some]
        refine fin _ h3 (by rw [e2]) (by rw [e2]) ?_ g2 (by rw [e2]; exact g3)
        rw [e2, iteP_f (fun q => q h2), h2]
      · have e2 : itS Q l (k + 1) = _ := eit.trans (iteP_t h2 _ _)
        rw [if_neg h2]
        refine fin 9 h (by rw [e2]) (by rw [e2]) ?_ (Ms_rf h) (by rw [e2]; exact i1)
        rw [e2, iteP_t h2]
        exact ((itS_01 Q l k).1.resolve_left h2).symm
theorem m_ch (hk : MK L b Q h) (hv : Val Q) {l M : Nat} (hl : (l : Int) < pL Q) {to : Int} (hM : (M : Int) ≤ pK Q l) (hT : (M : Int) ≤ to) (hor : (M : Int) = pK Q l ∨ (M : Int) = to) :
    ∃ h' k', F_Md_checks 43 (b : Int) (l : Int) to h = B_Md_checks_131 43 (b : Int) (l : Int) to (pK Q l) (itS Q l M).2.1 k' h' ∧ Ms h h' ∧ MkI h' Q l M := by
  have v2 := hv.2.1
  have l4 : l < 4 := by omega
  obtain ⟨h1, a1, a2, a3⟩ := m_stands hk hv hl
  have k1 := Ms_K a2 hk
  have f1 := Ms_43 h1 (j := 27) 0 (by decide) (by decide)
  have k2 := Ms_K f1 k1
  have f2 := Ms_43 (mw h1 43 27 0) (j := 26) (-4) (by decide) (by decide)
  have k3 := Ms_K f2 k2
  have i' : MkI (mw (mw h1 43 27 0) 43 26 (-4)) Q l 0 := ⟨MkR_oth _ (by decide) (by decide) (MkR_oth _ (by decide) (by decide) a3), by rw [mw_s]; rfl, by rw [mw_d _ _ (by decide), mw_s]; rfl⟩
  obtain ⟨h', k', z1, z2, z3⟩ := m_ch31 hv hl hM hT hor M 0 _ (by omega) k3 i'
  rw [show ((0 : Nat) : Int) = 0 from rfl] at z1
  refine ⟨h', k', ?_, Ms_tr a2 (Ms_tr f1 (Ms_tr f2 z2)), z3⟩
  rw [q_Md_checks _ _ _ _ _ (o_43 hk.1), a1, Option.bind_some, f_43 k1.1 (by decide), Option.bind_some, f_43 k2.1 (by decide), Option.bind_some, m_many k3.1 k3.2.2.1 l4 k3.2.2.2, Option.bind_some]
  exact z1
theorem m_checks9 (hk : MK L b Q h) (hv : Val Q) {l : Nat} (hl : (l : Int) < pL Q) :
    ∃ h', F_Md_checks 43 (b : Int) (l : Int) 9 h = some h' ∧ Ms h h' ∧ h'.2 43 27 = (chkS Q l).1 ∧ h'.2 43 26 = (if (chkS Q l).1 = 0 then -4 else (chkS Q l).2) := by
  have vk := (hv.2.2.2.2 l hl).2.2.2.2.1
  obtain ⟨N, hN⟩ : ∃ N : Nat, pK Q l = (N : Int) := ⟨(pK Q l).toNat, by omega⟩
  obtain ⟨h', k', z1, z2, z3, z4, z5⟩ := m_ch hk hv hl (M := N) (to := 9) (by omega) (by omega) (Or.inl hN.symm)
  have L1 := Ms_Ly z2 hk.1
  have ec : chkS Q l = iteP ((itS Q l N).1 ≠ 0) ((itS Q l N).1, (itS Q l N).2.2.2.2) (iteP ((itS Q l N).2.1 = 0) (10, (N : Int)) (0, 0)) := by
    unfold chkS
    rw [hN, tn]
  rw [z1, q_Md_checks_131, g_43 L1 (by decide), Option.bind_some, z5, ec]
  by_cases q1 : (itS Q l N).1 ≠ 0
  · rw [if_pos q1, iteP_t q1]
    exact ⟨h', rfl, z2, z5, z4⟩
  · have q0 : (itS Q l N).1 = 0 := Decidable.not_not.mp q1
    rw [if_neg q1, iteP_f q1, if_neg (by omega)]
    rw [q0] at z5 z4
    rw [if_pos rfl] at z4
    by_cases q2 : (itS Q l N).2.1 = 0
    · have L2 : LyM L (mw h' 43 27 10) := LyM_mw L1 rfl
      have f1 := Ms_43 h' (j := 27) 10 (by decide) (by decide)
      have f2 := Ms_43 (mw h' 43 27 10) (j := 26) (N : Int) (by decide) (by decide)
      rw [if_neg (fun w => w q2), iteP_t q2, f_43 L1 (by decide), Option.bind_some, hN, f_43 L2 (by decide), Option.bind_some]
      exact ⟨_, rfl, Ms_tr z2 (Ms_tr f1 f2), by rw [mw_d _ _ (by decide), mw_s], by rw [mw_s]; rfl⟩
    · rw [if_pos q2, iteP_f q2]
      exact ⟨h', rfl, z2, z5, z4⟩
theorem m_checksk (hk : MK L b Q h) (hv : Val Q) {l M : Nat} (hl : (l : Int) < pL Q) (hM : (M : Int) ≤ pK Q l) :
    ∃ h', F_Md_checks 43 (b : Int) (l : Int) (M : Int) h = some h' ∧ Ms h h' ∧ MkI h' Q l M := by
  obtain ⟨h', k', z1, z2, z3, z4, z5⟩ := m_ch hk hv hl (M := M) (to := (M : Int)) hM (Int.le_refl _) (Or.inr rfl)
  have L1 := Ms_Ly z2 hk.1
  rw [z1, q_Md_checks_131, g_43 L1 (by decide), Option.bind_some]
  by_cases q1 : h'.2 43 27 ≠ 0
  · rw [if_pos q1]; exact ⟨h', rfl, z2, z3, z4, z5⟩
  · rw [if_neg q1, if_pos hM]; exact ⟨h', rfl, z2, z3, z4, z5⟩
end Mk

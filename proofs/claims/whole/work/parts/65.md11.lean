/-! THE MODEL: undo, back -/
theorem w32_120 {n : Nat} (hn : n < 10) : w32 ((n : Int) * 120) = ((120 * n : Nat) : Int) := by rw [w32_id (by omega) (by omega)]; omega
theorem w32_1080 {n : Nat} (hn : n < 10) : w32 (1080 + (w32 ((n : Int) * 120))) = ((1080 + 120 * n : Nat) : Int) := by rw [w32_120 hn, w32_id (by omega) (by omega)]; omega
section Md
variable {L n : Nat} {T P : Nat → Int} {U K : List (Nat → Int)} {h : mH}
theorem MI_u (hm : MI L n T P U K h) {V : List (Nat → Int)} (hl : V.length ≤ 8) (hV : ∀ i Q, V[i]? = some Q → Sl (h.2 53) (120 * (V.length - i)) Q) : MI L n T P V K (mw h 43 15 (V.length : Int)) ∧ MFm h (mw h 43 15 (V.length : Int)) := by
  obtain ⟨hL, ⟨t1, t2, t3, t4⟩, hS, h0, ⟨u1, u2, u3⟩, k1, k2, k3⟩ := hm
  have o : ∀ a, a ≠ 43 → (mw h 43 15 (V.length : Int)).2 a = h.2 a := fun a ha => mw_o _ _ _ ha
  have o43 : ∀ j, j ≠ 15 → (mw h 43 15 (V.length : Int)).2 43 j = h.2 43 j := fun j hj => mw_d _ _ hj
  exact ⟨⟨LyM_mw hL rfl, ⟨by rw [o43 17 (by decide)]; exact t1, t2, by rw [o 54 (by decide)]; exact t3, t4⟩, Sta_c (o43 0 (by decide)) (o43 3 (by decide)) (fun a ha => o a (by omega)) hS, by rw [o 53 (by decide)]; exact h0, ⟨mw_s _ _ _ _, hl, by rw [o 53 (by decide)]; exact hV⟩, by rw [o43 16 (by decide)]; exact k1, k2, by rw [o 53 (by decide)]; exact k3⟩, MFm_mw h _ (by decide)⟩
theorem MI_k (hm : MI L n T P U K h) {V : List (Nat → Int)} (hl : V.length ≤ 2) (hV : ∀ i Q, V[i]? = some Q → Sl (h.2 53) (1080 + 120 * (V.length - 1 - i)) Q) : MI L n T P U V (mw h 43 16 (V.length : Int)) ∧ MFm h (mw h 43 16 (V.length : Int)) := by
  obtain ⟨hL, ⟨t1, t2, t3, t4⟩, hS, h0, ⟨u1, u2, u3⟩, k1, k2, k3⟩ := hm
  have o : ∀ a, a ≠ 43 → (mw h 43 16 (V.length : Int)).2 a = h.2 a := fun a ha => mw_o _ _ _ ha
  have o43 : ∀ j, j ≠ 16 → (mw h 43 16 (V.length : Int)).2 43 j = h.2 43 j := fun j hj => mw_d _ _ hj
  exact ⟨⟨LyM_mw hL rfl, ⟨by rw [o43 17 (by decide)]; exact t1, t2, by rw [o 54 (by decide)]; exact t3, t4⟩, Sta_c (o43 0 (by decide)) (o43 3 (by decide)) (fun a ha => o a (by omega)) hS, by rw [o 53 (by decide)]; exact h0, ⟨by rw [o43 15 (by decide)]; exact u1, u2, by rw [o 53 (by decide)]; exact u3⟩, mw_s _ _ _ _, hl, by rw [o 53 (by decide)]; exact hV⟩, MFm_mw h _ (by decide)⟩
theorem m_undo (hm : MI L n T P U K h) (hv : Val P) (hs : ∀ q ∈ U, St P q) : ∃ h', F_Md_undo 43 h = some ((undoA P U).1, h') ∧ MI L n T (undoA P U).2.1 (undoA P U).2.2 K h' ∧ MFm h h' := by
  obtain ⟨hL, -, hS, h0, ⟨u1, u2, u3⟩, -⟩ := id hm
  rw [q_Md_undo _ _ (o_43 hL), g_43 hL (by decide), Option.bind_some, u1]
  cases U with
  | nil =>
    rw [if_neg (by simp)]
    exact ⟨h, rfl, hm, MFm_rf h⟩
  | cons q U =>
    rw [List.length_cons] at u1 u2 u3 ⊢
    have hb : 120 * (U.length + 1) ≤ 1320 := by omega
    have hcp := m_copies hL (b := 120 * (U.length + 1)) (t := 0) (by omega) hb (by decide)
    rw [show ((0 : Nat) : Int) = 0 from rfl] at hcp
    have hq := u3 0 q rfl
    rw [Nat.sub_zero] at hq
    obtain ⟨m1, m2⟩ := MI_now hm hv (hs q List.mem_cons_self) (Sl_to (t := 0) hq) (fun j h1 h2 => by unfold cpI; rw [if_neg (by omega)])
    obtain ⟨n1, n2⟩ := MI_u m1 (V := U) (by omega) (fun i Q hi => by
      have := m1.2.2.2.2.1.2.2 (i + 1) Q (by simpa using hi)
      rw [List.length_cons, show U.length + 1 - (i + 1) = U.length - i by omega] at this
      exact this)
    refine ⟨_, ?_, n1, MFm_tr m2 n2⟩
    have g15 : gfd 6 15 (mrow h 53 (cpI (h.2 53) (120 * (U.length + 1)) 0 120)) 43 = some ((U.length + 1 : Nat) : Int) := by rw [g_43 m1.1 (by decide), m1.2.2.2.2.1.1, List.length_cons]
    rw [if_pos (by omega), Option.bind_some, w32_120 (by omega), hcp, Option.bind_some, g15, Option.bind_some, w32_pp _ (by omega), f_43 m1.1 (by decide), Option.bind_some, g_43 n1.1 (by decide), Option.bind_some, mw_s]
    rfl
theorem m_back (hm : MI L n T P U K h) (hv : Val P) (hs : ∀ q ∈ K, St P q) : ∃ h', F_Md_back 43 h = some ((backA P U K).1, h') ∧ MI L n T (backA P U K).2.1 (backA P U K).2.2.1 (backA P U K).2.2.2 h' ∧ MFm h h' := by
  obtain ⟨hL, -, hS, h0, -, k1, k2, k3⟩ := id hm
  rw [q_Md_back _ _ (o_43 hL), g_43 hL (by decide), Option.bind_some, k1]
  cases K with
  | nil =>
    rw [if_neg (by simp)]
    exact ⟨h, rfl, hm, MFm_rf h⟩
  | cons q K =>
    rw [List.length_cons] at k1 k2 k3 ⊢
    have hq := k3 0 q rfl
    rw [show K.length + 1 - 1 - 0 = K.length by omega] at hq
    obtain ⟨m1, m2⟩ := MI_k hm (V := K) (by omega) (fun i Q hi => by
      have := k3 (i + 1) Q (by simpa using hi)
      rw [show K.length + 1 - 1 - (i + 1) = K.length - 1 - i by omega] at this
      exact this)
    have hb : 1080 + 120 * K.length ≤ 1320 := by omega
    have hcp := m_copies m1.1 (b := 1080 + 120 * K.length) (t := 0) (by omega) hb (by decide)
    rw [show ((0 : Nat) : Int) = 0 from rfl] at hcp
    have r53 : (mw h 43 16 (K.length : Int)).2 53 = h.2 53 := mw_o _ _ _ (by decide)
    obtain ⟨n1, n2⟩ := MI_now m1 hv (hs q List.mem_cons_self) (g := cpI ((mw h 43 16 (K.length : Int)).2 53) (1080 + 120 * K.length) 0 120) (by rw [r53]; exact Sl_to (t := 0) hq) (fun j h1 h2 => by unfold cpI; rw [if_neg (by omega)])
    obtain ⟨p1, p2⟩ := MI_u n1 (V := []) (by decide) (fun i Q hi => by simp at hi)
    refine ⟨_, ?_, p1, MFm_tr m2 (MFm_tr n2 p2)⟩
    rw [if_pos (by omega), Option.bind_some, w32_pp _ (by omega), f_43 hL (by decide), Option.bind_some, g_43 m1.1 (by decide), Option.bind_some, mw_s, w32_1080 (by omega), hcp, Option.bind_some, f_43 n1.1 (by decide), Option.bind_some]
    have p16 := p1.2.2.2.2.2.1
    have e15 : (([] : List (Nat → Int)).length : Int) = 0 := rfl
    rw [e15] at p1 p16
    rw [g_43 p1.1 (by decide), Option.bind_some, p16]
    rfl
end Md

/-! THE MODEL: keep -/
section Md
variable {L n : Nat} {T P : Nat → Int} {U K : List (Nat → Int)} {h : mH}
theorem m_keep (hm : MI L n T P U K h) : ∃ h', F_Md_keep 43 h = some ((keepA P K).1, h') ∧ MI L n T P U (keepA P K).2 h' ∧ MFm h h' := by
  obtain ⟨hL, ⟨t1, t2, t3, t4⟩, hS, h0, ⟨u1, u2, u3⟩, k1, k2, k3⟩ := id hm
  unfold keepA
  rw [q_Md_keep _ _ (o_43 hL), g_43 hL (by decide), Option.bind_some, k1]
  by_cases q : K.length < 2
  · have hb : 1080 + 120 * K.length ≤ 1320 := by omega
    have hcp := m_copies hL (b := 0) (t := 1080 + 120 * K.length) (by omega) (by decide) hb
    rw [show ((0 : Nat) : Int) = 0 from rfl] at hcp
    have L1 : LyM L (mrow h 53 (cpI (h.2 53) 0 (1080 + 120 * K.length) 120)) := LyM_row hL (fun j => rfl)
    have L2 : LyM L (mw (mrow h 53 (cpI (h.2 53) 0 (1080 + 120 * K.length) 120)) 43 16 ((K.length + 1 : Nat) : Int)) := LyM_mw L1 rfl
    have kk : K.length < 1000 := by omega
    have kq : (K.length : Int) ≠ 2 := by omega
    have oo : ∀ a, a ≠ 43 → a ≠ 53 → (mw (mrow h 53 (cpI (h.2 53) 0 (1080 + 120 * K.length) 120)) 43 16 ((K.length + 1 : Nat) : Int)).2 a = h.2 a := fun a h1 h2 => by rw [mw_o _ _ _ h1, mrow_o _ _ h2]
    have o43 : ∀ j, j ≠ 16 → (mw (mrow h 53 (cpI (h.2 53) 0 (1080 + 120 * K.length) 120)) 43 16 ((K.length + 1 : Nat) : Int)).2 43 j = h.2 43 j := fun j hj => by rw [mw_d _ _ hj, mrow_o _ _ (by decide)]
    have o53 : (mw (mrow h 53 (cpI (h.2 53) 0 (1080 + 120 * K.length) 120)) 43 16 ((K.length + 1 : Nat) : Int)).2 53 = cpI (h.2 53) 0 (1080 + 120 * K.length) 120 := by rw [mw_o _ _ _ (by decide), mrow_s]
    have g16 : gfd 6 16 (mrow h 53 (cpI (h.2 53) 0 (1080 + 120 * K.length) 120)) 43 = some (K.length : Int) := by rw [g_43 L1 (by decide), mrow_o _ _ (by decide), k1]
    have c1 : (K.length : Int) * 120 = ((120 * K.length : Nat) : Int) := by omega
    have c2 : 1080 + ((120 * K.length : Nat) : Int) = ((1080 + 120 * K.length : Nat) : Int) := by omega
    rw [if_pos q, if_pos kq]
    have fr : MFm h (mw (mrow h 53 (cpI (h.2 53) 0 (1080 + 120 * K.length) 120)) 43 16 ((K.length + 1 : Nat) : Int)) := ⟨rfl, fun a ha => oo a (by omega) (by omega)⟩
    refine ⟨_, ?_, ⟨L2, ⟨by rw [o43 17 (by decide)]; exact t1, t2, by rw [oo 54 (by decide) (by decide)]; exact t3, t4⟩, Sta_c (o43 0 (by decide)) (o43 3 (by decide)) (fun a ha => oo a (by omega) (by omega)) hS, ?_, ⟨by rw [o43 15 (by decide)]; exact u1, u2, fun i Q hq => ?_⟩, mw_s _ _ _ _, by rw [List.length_cons]; omega, fun i Q hq => ?_⟩, fr⟩
    · have e1 : w32 ((K.length : Int) * 120) = ((120 * K.length : Nat) : Int) := by rw [c1]; exact w32_id (by omega) (by omega)
      have e2 : w32 (1080 + ((120 * K.length : Nat) : Int)) = ((1080 + 120 * K.length : Nat) : Int) := by rw [c2]; exact w32_id (by clear e1; omega) (by clear e1; omega)
      rw [Option.bind_some, e1, e2, hcp, Option.bind_some, g16, Option.bind_some, w32_nn K.length kk, f_43 L1 (by decide), Option.bind_some, g_43 L2 (by decide), Option.bind_some, mw_s]
      rfl
    · rw [o53]; exact Sl_off (by omega) h0
    · rw [o53]
      have hi := (List.getElem?_eq_some_iff.mp hq).1
      exact Sl_off (by omega) (u3 i Q hq)
    · rw [o53, List.length_cons]
      rcases i with _ | i
      · have : P = Q := by simpa using hq
        rw [← this, show K.length + 1 - 1 - 0 = K.length by omega]
        exact Sl_to h0
      · have hq' : K[i]? = some Q := by simpa using hq
        have hi := (List.getElem?_eq_some_iff.mp hq').1
        rw [show K.length + 1 - 1 - (i + 1) = K.length - 1 - i by omega]
        exact Sl_off (by omega) (k3 i Q hq')
  · have kq : (K.length : Int) = 2 := by omega
    rw [if_neg q, if_neg (Decidable.not_not.mpr kq)]
    exact ⟨h, rfl, hm, MFm_rf h⟩
end Md

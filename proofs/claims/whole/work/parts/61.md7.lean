/-! THE MODEL: known -/
section Md
variable {L n : Nat} {T P : Nat → Int} {U K : List (Nat → Int)} {h : mH}
theorem m_kn46 (hm : MI L n T P U K h) (hU : U.length < 8) (o : Option mV) : ∃ h', B_Md_known_46 43 o h = some h' ∧ MI L n T P (P :: U) K h' ∧ MFm h h' := by
  obtain ⟨hL, ⟨t1, t2, t3, t4⟩, hS, h0, ⟨u1, u2, u3⟩, k1, k2, k3⟩ := hm
  have L1 : LyM L (mw h 43 15 ((U.length + 1 : Nat) : Int)) := LyM_mw hL rfl
  have hb : 120 * (U.length + 1) ≤ 1320 := by omega
  have hcp := m_copies L1 (b := 0) (t := 120 * (U.length + 1)) (by omega) (by decide) hb
  rw [show ((0 : Nat) : Int) = 0 from rfl] at hcp
  have r53 : (mw h 43 15 ((U.length + 1 : Nat) : Int)).2 53 = h.2 53 := mw_o _ _ _ (by decide)
  rw [r53] at hcp
  have c1 : ((U.length + 1 : Nat) : Int) * 120 = ((120 * (U.length + 1) : Nat) : Int) := by omega
  have ku : U.length < 1000 := by omega
  have e1 : w32 (((U.length + 1 : Nat) : Int) * 120) = ((120 * (U.length + 1) : Nat) : Int) := by rw [c1]; exact w32_id (by omega) (by omega)
  have oo : ∀ a, a ≠ 43 → a ≠ 53 → (mrow (mw h 43 15 ((U.length + 1 : Nat) : Int)) 53 (cpI (h.2 53) 0 (120 * (U.length + 1)) 120)).2 a = h.2 a := fun a h1 h2 => by rw [mrow_o _ _ h2, mw_o _ _ _ h1]
  have o43 : ∀ j, j ≠ 15 → (mrow (mw h 43 15 ((U.length + 1 : Nat) : Int)) 53 (cpI (h.2 53) 0 (120 * (U.length + 1)) 120)).2 43 j = h.2 43 j := fun j hj => by rw [mrow_o _ _ (by decide), mw_d _ _ hj]
  refine ⟨_, ?_, ⟨LyM_row L1 (fun j => rfl), ⟨by rw [o43 17 (by decide)]; exact t1, t2, by rw [oo 54 (by decide) (by decide)]; exact t3, t4⟩, Sta_c (o43 0 (by decide)) (o43 3 (by decide)) (fun a ha => oo a (by clear e1; omega) (by clear e1; omega)) hS, ?_, ⟨?_, by rw [List.length_cons]; clear e1; omega, fun i Q hq => ?_⟩, by rw [o43 16 (by decide)]; exact k1, k2, fun i Q hq => ?_⟩, MFm_tr (MFm_mw h _ (by decide)) ⟨rfl, fun a ha => mrow_o _ _ (by clear e1; omega)⟩⟩
  · rw [q_Md_known_46, g_43 hL (by decide), Option.bind_some, u1, w32_nn U.length ku, f_43 hL (by decide), Option.bind_some, g_43 L1 (by decide), Option.bind_some, mw_s, e1, hcp, Option.bind_some]
  · rw [mrow_s]; exact Sl_off (by clear e1; omega) h0
  · rw [mrow_o _ _ (by decide), mw_s]; rfl
  · rw [mrow_s, List.length_cons]
    rcases i with _ | i
    · have : P = Q := by simpa using hq
      rw [← this]
      exact Sl_to h0
    · have hq' : U[i]? = some Q := by simpa using hq
      have hi := (List.getElem?_eq_some_iff.mp hq').1
      rw [show U.length + 1 - (i + 1) = U.length - i by clear e1; omega]
      exact Sl_off (by clear e1; omega) (u3 i Q hq')
  · rw [mrow_s]
    exact Sl_off (by clear e1; omega) (k3 i Q hq)
end Md
section Md
variable {L n : Nat} {T P : Nat → Int} {U K : List (Nat → Int)} {h : mH}
theorem Sl_sh {f Q : Nat → Int} {b : Nat} (hb : 120 ≤ b) (hb2 : b + 120 ≤ 960) (hs : Sl f (b + 120) Q) : Sl (shI f 960) b Q := by
  intro l hl
  obtain ⟨a1, a2, a3, a4⟩ := hs l hl
  have g : ∀ j, b ≤ j → j < b + 120 → shI f 960 j = f (j + 120) := fun j h1 h2 => by unfold shI; rw [if_pos (by omega)]
  refine ⟨fun r hr => ?_, ?_, ?_, fun j hj => ?_⟩
  · rw [g _ (by omega) (by omega), show b + 30 * l + r + 120 = b + 120 + 30 * l + r by omega]; exact a1 r hr
  · rw [g _ (by omega) (by omega), show b + 30 * l + 4 + 120 = b + 120 + 30 * l + 4 by omega]; exact a2
  · rw [g _ (by omega) (by omega), show b + 30 * l + 5 + 120 = b + 120 + 30 * l + 5 by omega]; exact a3
  · rw [g _ (by omega) (by omega), show b + 30 * l + 6 + j + 120 = b + 120 + 30 * l + 6 + j by omega]; exact a4 j hj
theorem m_known (hm : MI L n T P U K h) : ∃ h', F_Md_known 43 h = some h' ∧ MI L n T P ((P :: U).take 8) K h' ∧ MFm h h' := by
  obtain ⟨hL, ⟨t1, t2, t3, t4⟩, hS, h0, ⟨u1, u2, u3⟩, k1, k2, k3⟩ := id hm
  rw [q_Md_known _ _ (o_43 hL), g_43 hL (by decide), Option.bind_some, u1]
  by_cases q : U.length < 8
  · obtain ⟨h', a1, a2, a3⟩ := m_kn46 hm q none
    have e : (P :: U).take 8 = P :: U := List.take_of_length_le (by rw [List.length_cons]; omega)
    rw [e]
    exact ⟨h', by rw [if_pos (by omega)]; exact a1, a2, a3⟩
  · have u8 : U.length = 8 := by omega
    obtain ⟨o, z⟩ := m_kn12 (f := h.2 53) 840 120 h (by decide) (by decide) hL (by funext j; unfold shI; rw [if_neg (by omega)])
    have oo : ∀ a, a ≠ 43 → a ≠ 53 → (mw (mrow h 53 (shI (h.2 53) 960)) 43 15 7).2 a = h.2 a := fun a h1 h2 => by rw [mw_o _ _ _ h1, mrow_o _ _ h2]
    have o43 : ∀ j, j ≠ 15 → (mw (mrow h 53 (shI (h.2 53) 960)) 43 15 7).2 43 j = h.2 43 j := fun j hj => by rw [mw_d _ _ hj, mrow_o _ _ (by decide)]
    have o53 : (mw (mrow h 53 (shI (h.2 53) 960)) 43 15 7).2 53 = shI (h.2 53) 960 := by rw [mw_o _ _ _ (by decide), mrow_s]
    have l7 : (U.take 7).length = 7 := by rw [List.length_take]; omega
    have hm2 : MI L n T P (U.take 7) K (mw (mrow h 53 (shI (h.2 53) 960)) 43 15 7) := by
      refine ⟨LyM_mw (LyM_row hL (fun j => rfl)) rfl, ⟨by rw [o43 17 (by decide)]; exact t1, t2, by rw [oo 54 (by decide) (by decide)]; exact t3, t4⟩, Sta_c (o43 0 (by decide)) (o43 3 (by decide)) (fun a ha => oo a (by omega) (by omega)) hS, ?_, ⟨by rw [mw_s, l7]; rfl, by omega, fun i Q hq => ?_⟩, by rw [o43 16 (by decide)]; exact k1, k2, fun i Q hq => ?_⟩
      · rw [o53]; exact Sl_eq (fun j h1 h2 => by unfold shI; rw [if_neg (by omega)]) h0
      · have hi := (List.getElem?_eq_some_iff.mp hq).1
        rw [l7] at hi
        rw [List.getElem?_take_of_lt hi] at hq
        rw [o53, l7]
        refine Sl_sh (by omega) (by omega) ?_
        have := u3 i Q hq
        rw [u8] at this
        rw [show 120 * (7 - i) + 120 = 120 * (8 - i) by omega]
        exact this
      · rw [o53]; exact Sl_eq (fun j h1 h2 => by unfold shI; rw [if_neg (by omega)]) (k3 i Q hq)
    obtain ⟨h', a1, a2, a3⟩ := m_kn46 hm2 (by omega) o
    have e : (P :: U).take 8 = P :: U.take 7 := rfl
    rw [e]
    have fr : MFm h (mw (mrow h 53 (shI (h.2 53) 960)) 43 15 7) := ⟨rfl, fun a ha => oo a (by omega) (by omega)⟩
    refine ⟨h', ?_, a2, MFm_tr fr a3⟩
    rw [if_neg (by omega)]
    exact z.trans a1
end Md

/-! THE MODEL: known -/
section Md
variable {L n : Nat} {T P : Nat → Int} {U K : List (Nat → Int)} {h : mH}
theorem m_kn46 (hm : MI L n T P U K h) (hU : U.length < 8) (o : Option mV) : ∃ h', B_Md_known_46 43 o h = some h' ∧ MI L n T P (P :: U) K h' ∧ MFm h h' := by
  obtain ⟨hL, ⟨t1, t2, t3, t4⟩, hS, h0, ⟨u1, u2, u3⟩, k1, k2, k3⟩ := hm
  have L1 : Ly L (mw h 43 15 ((U.length + 1 : Nat) : Int)) := Ly_mw hL rfl
  have hb : 120 * (U.length + 1) ≤ 1320 := by omega
  have hcp := m_copies L1 (b := 0) (t := 120 * (U.length + 1)) (by omega) (by decide) hb
  rw [show ((0 : Nat) : Int) = 0 from rfl] at hcp
  have r53 : (mw h 43 15 ((U.length + 1 : Nat) : Int)).2 53 = h.2 53 := mw_o _ _ _ (by decide)
  rw [r53] at hcp
  have c1 : ((U.length + 1 : Nat) : Int) * 120 = ((120 * (U.length + 1) : Nat) : Int) := by omega
  have ku : U.length < 1000 := by omega
  have e1 : w32 (((U.length + 1 : Nat) : Int) * 120) = ((120 * (U.length + 1) : Nat) : Int) := by rw [c1]; exact w32_id (by omega) (by omega)
  have oo : ∀ a, a ≠ 43 → a ≠ 53 → (mrow (mw h 43 15 ((U.length + 1 : Nat) : Int)) 53 (cpI (h.2 53) 0 (120 * (U.length + 1)) 120)).2 a = h.2 a := fun a h1 h2 => by rw [mrow_o _ _ h2, mw_o _ _ _ h1]
  have o43 : ∀ j, j ≠ 15 → (mrow (mw h 43 15 ((U.length + 1 : Nat) : Int)) 53 (cpI (h.2 53) 0 (120 * (U.length + 1)) 120)).2 43 j = h.2 43 j := fun j hj => by rw [mrow_o _ _ (by decide), mw_d _ _ hj]
  refine ⟨_, ?_, ⟨Ly_row L1 (fun j => rfl), ⟨by rw [o43 17 (by decide)]; exact t1, t2, by rw [oo 54 (by decide) (by decide)]; exact t3, t4⟩, Sta_c (o43 0 (by decide)) (o43 3 (by decide)) (fun a ha => oo a (by clear e1; omega) (by clear e1; omega)) hS, ?_, ⟨?_, by rw [List.length_cons]; clear e1; omega, fun i Q hq => ?_⟩, by rw [o43 16 (by decide)]; exact k1, k2, fun i Q hq => ?_⟩, MFm_tr (MFm_mw h _ (by decide)) ⟨rfl, fun a ha => mrow_o _ _ (by clear e1; omega)⟩⟩
  · rw [q_Md_known_46, g_43 hL (by decide), Option.bind_some, u1, w32_nn U.length ku, f_43 hL (by decide), Option.bind_some, g_43 L1 (by decide), Option.bind_some, mw_s, e1, hcp, Option.bind_some]
  · rw [mrow_s]; exact Sl_off (by clear e1; omega) h0
  · rw [mrow_o _ _ (by decide), mw_s]; rfl
  · rw [mrow_s, List.length_cons]
    rcases i with _ | i
    · have : P = Q := by simpa using hq
      rw [← this]
      exact Sl_to h0
    · have hq' : U[i]? = some Q := by simpa using hq
      have hi := (List.getElem?_eq_some_iff.mp hq').1
      rw [show U.length + 1 - (i + 1) = U.length - i by clear e1; omega]
      exact Sl_off (by clear e1; omega) (u3 i Q hq')
  · rw [mrow_s]
    exact Sl_off (by clear e1; omega) (k3 i Q hq)
end Md

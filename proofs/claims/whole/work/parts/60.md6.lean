/-! THE MODEL: what was is kept -/
def shI (f : Nat → Int) (k : Nat) : Nat → Int := fun j => if 120 ≤ j ∧ j < k then f (j + 120) else f j
section Md
variable {L n : Nat} {T P : Nat → Int} {U K : List (Nat → Int)} {h : mH}
theorem shI_s {f : Nat → Int} {k : Nat} (hk : 120 ≤ k) : ru (shI f k) k (shI f k (k + 120)) = shI f (k + 1) := by
  funext j
  unfold ru shI
  rw [if_neg (c := 120 ≤ k + 120 ∧ k + 120 < k) (by omega)]
  by_cases e : j = k
  · rw [if_pos e, if_pos (by omega), e]
  · rw [if_neg e]
    by_cases q : 120 ≤ j ∧ j < k
    · rw [if_pos q, if_pos (by omega)]
    · rw [if_neg q, if_neg (by omega)]
theorem m_kn12 {f : Nat → Int} : ∀ (m k : Nat) (h : mH), k + m = 960 → 120 ≤ k → LyM L h → h.2 53 = shI f k → ∃ o, B_Md_known_12 43 (k : Int) h = B_Md_known_46 43 o (mw (mrow h 53 (shI f 960)) 43 15 7)
  | 0, k, h, e, hk, hL, hf => by
    have : k = 960 := by omega
    subst this
    refine ⟨some (.inl ((960 : Nat) : Int)), ?_⟩
    rw [q_Md_known_12, if_pos (by decide), f_43 hL (by decide), Option.bind_some, ← hf, mrow_id]
  | m + 1, k, h, e, hk, hL, hf => by
    have k0 : ¬ 960 ≤ (k : Int) := by omega
    have k1 : (0 : Int) ≤ ((k + 120 : Nat) : Int) := by omega
    have k2 : ((k + 120 : Nat) : Int) < 1440 := by omega
    have k3 : (0 : Int) ≤ (k : Int) := by omega
    have k4 : (k : Int) < 1440 := by omega
    have kk : k < 1000 := by omega
    have e1 : w32 ((k : Int) + 120) = ((k + 120 : Nat) : Int) := w32_id (by omega) (by omega)
    obtain ⟨o, z⟩ := m_kn12 m (k + 1) (mrow h 53 (shI f (k + 1))) (by clear e1; omega) (by clear e1; omega) (LyM_row hL (fun j => rfl)) (mrow_s _ _ _)
    rw [mrow_m] at z
    refine ⟨o, ?_⟩
    rw [q_Md_known_12, if_neg k0, p_43_14 hL, Option.bind_some, Option.bind_some, t53, e1, r_53 hL k1 k2, Option.bind_some, tn, w_53 hL k3 k4, Option.bind_some, tn, mw_r, hf, shI_s hk, w32_nn k kk]
    exact z
end Md

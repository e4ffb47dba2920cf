/-! THE MODEL: reads -/
section Md
variable {L n : Nat} {T P : Nat → Int} {U K : List (Nat → Int)} {h : mH}
theorem t53 : (53 : Int).toNat = 53 := rfl
theorem t44 : (44 : Int).toNat = 44 := rfl
theorem t45 : (45 : Int).toNat = 45 := rfl
theorem m_isLabel (hL : LyM L h) (hS : Sta P h) (hp : 0 ≤ pL P ∧ pL P ≤ 4) (x : Int) : F_Md_isLabel 43 x h = some (b2i (hasL P x), h) := by
  have e : w32 (pL P - 1) = pL P - 1 := w32_id (by omega) (by omega)
  rw [q_Md_isLabel _ _ _ (o_43 hL), g_43 hL (by decide), Option.bind_some, hS.2.1, e, c_in, Option.bind_some]
  clear e
  dsimp only
  rw [rz_b, b2i_c (show (0 ≤ x ∧ x ≤ pL P - 1) ↔ hasL P x by unfold hasL; omega)]
theorem m_many (hL : LyM L h) {b l : Nat} {Q : Nat → Int} (hs : Sl (h.2 53) b Q) (hl : l < 4) (hb : b ≤ 1320) : F_Md_many 43 (b : Int) (l : Int) h = some (pK Q l, h) := by
  have k1 : (0 : Int) ≤ ((b + 30 * l + 5 : Nat) : Int) := by omega
  have k2 : ((b + 30 * l + 5 : Nat) : Int) < 1440 := by omega
  have e : w32 ((w32 ((b : Int) + (w32 (30 * (l : Int))))) + 5) = ((b + 30 * l + 5 : Nat) : Int) := by unfold w32; omega
  rw [q_Md_many _ _ _ _ (o_43 hL), p_43_14 hL, Option.bind_some, t53, e, r_53 hL k1 k2, Option.bind_some, tn, (hs l hl).2.2.1]
theorem m_isCode (hL : LyM L h) (hS : Sta P h) (h0 : Sl (h.2 53) 0 P) (hv : Val P) (x k : Int) : F_Md_isCode 43 x k h = some (b2i (hasI P x k), h) := by
  have h4 := hv.2.1
  rw [q_Md_isCode _ _ _ _ (o_43 hL), m_isLabel hL hS (by omega), Option.bind_some]
  dsimp only
  by_cases q : hasL P x
  · obtain ⟨l, rfl⟩ := n_of q.1
    have l4 : l < 4 := by have := q.2; omega
    have hk := (hv.2.2.2.2 l q.2).2.2.2.2.1
    have e : w32 (pK P l - 1) = pK P l - 1 := w32_id (by omega) (by omega)
    have hm := m_many hL h0 l4 (by decide)
    rw [show ((0 : Nat) : Int) = 0 from rfl] at hm
    rw [b2i_t q, if_neg (by decide), hm, Option.bind_some]
    dsimp only
    rw [e, c_in, Option.bind_some]
    clear e
    dsimp only
    by_cases w : 0 ≤ k ∧ k ≤ pK P l - 1
    · rw [b2i_t w, if_neg (by decide), b2i_t (p := hasI P (l : Int) k) ⟨q, w.1, by rw [tn]; omega⟩]
    · rw [b2i_f w, if_pos rfl, b2i_f (p := hasI P (l : Int) k) (fun z => w ⟨z.2.1, by have := z.2.2; rw [tn] at this; omega⟩)]
  · rw [b2i_f q, if_pos rfl, b2i_f (p := hasI P x k) (fun z => q z.1)]
theorem m_isType (hL : LyM L h) (hS : Sta P h) (hv : Val P) (x : Int) : F_Md_isType 43 x h = some (b2i (tyOk P x), h) := by
  have h4 := hv.2.1
  have h4S := hv.1
  have e1 : w32 (1 + pS P) = 1 + pS P := w32_id (by omega) (by omega)
  have e2 : w32 (5 + pL P) = 5 + pL P := w32_id (by clear e1; omega) (by clear e1; omega)
  rw [q_Md_isType _ _ _ (o_43 hL), c_in, Option.bind_some]
  dsimp only
  by_cases a : 0 ≤ x ∧ x ≤ 1
  · rw [b2i_t a, if_pos (by decide), q_Md_isType_46, b2i_t (p := tyOk P x) (Or.inl ⟨a.1, by clear e1 e2; omega⟩)]
  rw [b2i_f a, if_neg (by decide), g_43 hL (by decide), Option.bind_some, hS.1, e1, c_in, Option.bind_some]
  clear e1
  dsimp only
  by_cases b : 2 ≤ x ∧ x ≤ 1 + pS P
  · rw [b2i_t b, if_pos (by decide), q_Md_isType_46, b2i_t (p := tyOk P x) (Or.inr (Or.inl (by clear e2; omega)))]
  rw [b2i_f b, if_neg (by decide), g_43 hL (by decide), Option.bind_some, hS.2.1, e2, c_in, Option.bind_some]
  clear e2
  dsimp only
  by_cases c : 6 ≤ x ∧ x ≤ 5 + pL P
  · rw [b2i_t c, if_neg (by decide), q_Md_isType_46, b2i_t (p := tyOk P x) (Or.inr (Or.inr (by omega)))]
  · rw [b2i_f c, if_pos rfl, b2i_f (p := tyOk P x) (by unfold tyOk; omega)]
theorem m_sort (hm : MI L n T P U K h) (hv : Val P) (t f : Int) : F_Md_sort 43 t f h = some (sortA P t f, h) := by
  obtain ⟨hL, -, hS, -⟩ := hm
  have h4S := hv.1
  have e1 : w32 (pS P - 1) = pS P - 1 := w32_id (by omega) (by omega)
  unfold sortA
  rw [q_Md_sort _ _ _ _ (o_43 hL), g_43 hL (by decide), Option.bind_some, hS.1, e1, c_in, Option.bind_some]
  clear e1
  dsimp only
  by_cases q : 0 ≤ t ∧ t < pS P
  · obtain ⟨m, rfl⟩ := n_of q.1
    have m4 : m < 4 := by omega
    obtain ⟨s1, s2⟩ := hS.2.2.1 m q.2
    have hf := (hv.2.2.2.1 m q.2).1
    have k1 : (0 : Int) ≤ (m : Int) := by omega
    have k2 : (m : Int) < 4 := by omega
    have e2 : w32 (pFn P m - 1) = pFn P m - 1 := w32_id (by omega) (by omega)
    rw [b2i_t (p := 0 ≤ (m : Int) ∧ (m : Int) ≤ pS P - 1) (by clear e2; omega), if_neg (by decide), p_43_1 hL, Option.bind_some, t44, r_44 hL k1 k2, Option.bind_some, tn, s1, e2, c_in, Option.bind_some]
    clear e2
    dsimp only
    by_cases w : -1 ≤ f ∧ f ≤ pFn P m - 1
    · rw [b2i_t w, if_pos (by decide), iteP_t ⟨q, w.1, by omega⟩]
      by_cases f0 : 0 ≤ f
      · obtain ⟨g, rfl⟩ := n_of f0
        have g3 : g < 3 := by omega
        have k3 : (0 : Int) ≤ ((3 * m + g : Nat) : Int) := by omega
        have k4 : ((3 * m + g : Nat) : Int) < 12 := by omega
        have hg := s2 g (by omega)
        have kf : ¬ (g : Int) = -1 := by omega
        have e3 : w32 ((w32 (3 * (m : Int))) + (g : Int)) = ((3 * m + g : Nat) : Int) := by unfold w32; omega
        rw [if_pos f0, p_43_2 hL, Option.bind_some, t45, e3, r_45 hL k3 k4, Option.bind_some, tn, hg, iteP_f kf, tn]
      · have fe : f = -1 := by omega
        rw [if_neg f0, p_43_1 hL, Option.bind_some, t44, r_44 hL k1 k2, Option.bind_some, tn, s1, iteP_t fe]
    · rw [b2i_f w, if_neg (by decide), iteP_f (fun z => w ⟨z.2.1, by omega⟩)]
  · rw [b2i_f (p := 0 ≤ t ∧ t ≤ pS P - 1) (by omega), if_pos rfl, iteP_f (fun z => q z.1)]
end Md

/-! THE MODEL: code, copies -/
def cpI (f : Nat → Int) (b t k : Nat) : Nat → Int := fun j => if t ≤ j ∧ j < t + k then f (b + (j - t)) else f j
section Md
variable {L n : Nat} {T P : Nat → Int} {U K : List (Nat → Int)} {h : mH}
theorem cpI_s {f : Nat → Int} {b t k : Nat} (hd : b + 120 ≤ t ∨ t + 120 ≤ b) (hk : k < 120) : ru (cpI f b t k) (t + k) (cpI f b t k (b + k)) = cpI f b t (k + 1) := by
  funext j
  unfold ru cpI
  rw [if_neg (c := t ≤ b + k ∧ b + k < t + k) (by omega)]
  by_cases e : j = t + k
  · rw [if_pos e, if_pos (by omega)]
    congr 1
    omega
  · rw [if_neg e]
    by_cases q : t ≤ j ∧ j < t + k
    · rw [if_pos q, if_pos (by omega)]
    · rw [if_neg q, if_neg (by omega)]
theorem m_cp2 {f : Nat → Int} {b t : Nat} (hd : b + 120 ≤ t ∨ t + 120 ≤ b) (hb : b ≤ 1320) (ht : t ≤ 1320) : ∀ (m k : Nat) (h : mH), k + m = 120 → LyM L h → h.2 53 = cpI f b t k → B_Md_copies_2 43 (b : Int) (t : Int) (k : Int) h = some (mrow h 53 (cpI f b t 120))
  | 0, k, h, e, hL, hf => by
    have : k = 120 := by omega
    subst this
    rw [q_Md_copies_2, if_pos (by decide), ← hf, mrow_id]
  | m + 1, k, h, e, hL, hf => by
    have k0 : ¬ 120 ≤ (k : Int) := by omega
    have hk : k < 120 := by omega
    have kk : k < 1000 := by omega
    have k1 : (0 : Int) ≤ ((b + k : Nat) : Int) := by omega
    have k2 : ((b + k : Nat) : Int) < 1440 := by omega
    have k3 : (0 : Int) ≤ ((t + k : Nat) : Int) := by omega
    have k4 : ((t + k : Nat) : Int) < 1440 := by omega
    have c1 : (b : Int) + (k : Int) = ((b + k : Nat) : Int) := by omega
    have c2 : (t : Int) + (k : Int) = ((t + k : Nat) : Int) := by omega
    have e1 : w32 ((b : Int) + (k : Int)) = ((b + k : Nat) : Int) := by rw [c1]; exact w32_id (by omega) (by omega)
    have e2 : w32 ((t : Int) + (k : Int)) = ((t + k : Nat) : Int) := by rw [c2]; exact w32_id (by clear e1; omega) (by clear e1; omega)
    have z := m_cp2 hd hb ht m (k + 1) (mrow h 53 (cpI f b t (k + 1))) (by clear e1 e2; omega) (LyM_row hL (fun j => rfl)) (mrow_s _ _ _)
    rw [mrow_m] at z
    rw [q_Md_copies_2, if_neg k0, p_43_14 hL, Option.bind_some, Option.bind_some, t53, e1, r_53 hL k1 k2, Option.bind_some, tn, e2, w_53 hL k3 k4, Option.bind_some, tn, mw_r, hf, cpI_s hd hk, w32_nn k kk]
    exact z
theorem m_copies (hL : LyM L h) {b t : Nat} (hd : b + 120 ≤ t ∨ t + 120 ≤ b) (hb : b ≤ 1320) (ht : t ≤ 1320) : F_Md_copies 43 (b : Int) (t : Int) h = some (mrow h 53 (cpI (h.2 53) b t 120)) := by
  rw [q_Md_copies _ _ _ _ (o_43 hL)]
  refine m_cp2 hd hb ht 120 0 h (by decide) hL ?_
  funext j
  unfold cpI
  rw [if_neg (by omega)]
theorem Sl_to {f Q : Nat → Int} {b t : Nat} (hs : Sl f b Q) : Sl (cpI f b t 120) t Q := by
  intro l hl
  obtain ⟨a1, a2, a3, a4⟩ := hs l hl
  have g : ∀ j, j < 120 → cpI f b t 120 (t + j) = f (b + j) := fun j hj => by
    unfold cpI
    rw [if_pos (by omega)]
    congr 1
    omega
  refine ⟨fun r hr => ?_, ?_, ?_, fun j hj => ?_⟩
  · rw [show t + 30 * l + r = t + (30 * l + r) by omega, g _ (by omega), show b + (30 * l + r) = b + 30 * l + r by omega]; exact a1 r hr
  · rw [show t + 30 * l + 4 = t + (30 * l + 4) by omega, g _ (by omega), show b + (30 * l + 4) = b + 30 * l + 4 by omega]; exact a2
  · rw [show t + 30 * l + 5 = t + (30 * l + 5) by omega, g _ (by omega), show b + (30 * l + 5) = b + 30 * l + 5 by omega]; exact a3
  · rw [show t + 30 * l + 6 + j = t + (30 * l + 6 + j) by omega, g _ (by omega), show b + (30 * l + 6 + j) = b + 30 * l + 6 + j by omega]; exact a4 j hj
theorem Sl_eq {f g Q : Nat → Int} {b : Nat} (e : ∀ j, b ≤ j → j < b + 120 → g j = f j) (hs : Sl f b Q) : Sl g b Q := by
  intro l hl
  obtain ⟨a1, a2, a3, a4⟩ := hs l hl
  exact ⟨fun r hr => by rw [e _ (by omega) (by omega)]; exact a1 r hr, by rw [e _ (by omega) (by omega)]; exact a2, by rw [e _ (by omega) (by omega)]; exact a3, fun j hj => by rw [e _ (by omega) (by omega)]; exact a4 j hj⟩
theorem Sl_off {f Q : Nat → Int} {b t c : Nat} (hd : c + 120 ≤ t ∨ t + 120 ≤ c) (hs : Sl f c Q) : Sl (cpI f b t 120) c Q :=
  Sl_eq (fun j h1 h2 => by unfold cpI; rw [if_neg (by omega)]) hs
theorem m_spot {b l k : Nat} (hb : b ≤ 1320) (hl : l < 4) (hk : k ≤ 6) (h : mH) : F_Md_spot (b : Int) (l : Int) (k : Int) h = some (((b + 30 * l + 6 + 4 * k : Nat) : Int), h) := by
  have e : w32 ((w32 ((w32 ((b : Int) + (w32 (30 * (l : Int))))) + 6)) + (w32 (4 * (k : Int)))) = ((b + 30 * l + 6 + 4 * k : Nat) : Int) := by unfold w32; omega
  rw [q_Md_spot, e]
theorem m_code (hm : MI L n T P U K h) (hv : Val P) (l k w : Int) : F_Md_code 43 l k w h = some (codeA P l k w, h) := by
  obtain ⟨hL, -, hS, h0, -⟩ := hm
  unfold codeA
  rw [q_Md_code _ _ _ _ _ (o_43 hL), m_isCode hL hS h0 hv, Option.bind_some]
  dsimp only
  by_cases q : hasI P l k
  · rw [b2i_t q, if_neg (by decide), c_in, Option.bind_some]
    dsimp only
    obtain ⟨m, rfl⟩ := n_of q.1.1
    obtain ⟨i, rfl⟩ := n_of q.2.1
    have q2 := q.2.2
    rw [tn] at q2
    have m4 : m < 4 := by have := hv.2.1; have := q.1.2; omega
    have hk := (hv.2.2.2.2 m q.1.2).2.2.2.2.1
    have i6 : i < 6 := by omega
    rw [tn, tn]
    by_cases r : 0 ≤ w ∧ w ≤ 3
    · obtain ⟨p, rfl⟩ := n_of r.1
      have p4 : p < 4 := by omega
      have k1 : (0 : Int) ≤ ((0 + 30 * m + 6 + 4 * i + p : Nat) : Int) := by omega
      have k2 : ((0 + 30 * m + 6 + 4 * i + p : Nat) : Int) < 1440 := by omega
      have c1 : ((0 + 30 * m + 6 + 4 * i : Nat) : Int) + (p : Int) = ((0 + 30 * m + 6 + 4 * i + p : Nat) : Int) := by omega
      have e1 : w32 (((0 + 30 * m + 6 + 4 * i : Nat) : Int) + (p : Int)) = ((0 + 30 * m + 6 + 4 * i + p : Nat) : Int) := by rw [c1]; exact w32_id (by omega) (by omega)
      have hs := m_spot (b := 0) (by decide) m4 (by clear e1; omega) h (k := i)
      rw [show ((0 : Nat) : Int) = 0 from rfl] at hs
      have hc := (h0 m m4).2.2.2 (4 * i + p) (by clear e1; omega)
      have hcell : h.2 53 (0 + 30 * m + 6 + 4 * i + p) = pC P m i p := by
        rw [show 0 + 30 * m + 6 + 4 * i + p = 0 + 30 * m + 6 + (4 * i + p) by clear e1; omega, hc]
        unfold pC
        rw [show 28 + 34 * m + (4 * i + p) = 28 + 34 * m + 4 * i + p by clear e1; omega]
      rw [b2i_t r, if_neg (by decide), p_43_14 hL, Option.bind_some, hs, Option.bind_some, iteP_t ⟨q, r.1, by clear e1; omega⟩, tn]
      dsimp only
      rw [t53, e1, r_53 hL k1 k2, Option.bind_some, tn, hcell]
    · rw [b2i_f r, if_pos rfl, iteP_f (fun z => r ⟨z.2.1, by omega⟩)]
  · rw [b2i_f q, if_pos rfl, iteP_f (fun z => q z.1)]
end Md

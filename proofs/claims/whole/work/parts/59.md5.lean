/-! THE MODEL: label -/
theorem w32_s1 {l i : Nat} (hl : l < 4) (hi : i < 3) : w32 ((w32 ((w32 (3 * (l : Int))) + ((5 + i : Nat) : Int))) - 5) = ((3 * l + i : Nat) : Int) := by
  rw [w32_id (x := 3 * (l : Int)) (by omega) (by omega), w32_id (x := 3 * (l : Int) + ((5 + i : Nat) : Int)) (by omega) (by omega), w32_id (by omega) (by omega)]
  omega
theorem w32_s2 {l w : Nat} (hl : l < 4) (hw : w < 10) : w32 ((w32 (30 * (l : Int))) + (w : Int)) = ((0 + 30 * l + w : Nat) : Int) := by
  rw [w32_id (x := 30 * (l : Int)) (by omega) (by omega), w32_id (by omega) (by omega)]
  omega
section Md
variable {L n : Nat} {T P : Nat → Int} {U K : List (Nat → Int)} {h : mH}
theorem t46 : (46 : Int).toNat = 46 := rfl
theorem t47 : (47 : Int).toNat = 47 := rfl
theorem m_lab48 (hm : MI L n T P U K h) (hv : Val P) {l w : Nat} (hl : (l : Int) < pL P) (hw : w ≤ 9) (hh : 5 ≤ w → w ≤ 7 → (w : Int) - 5 < pH P l) : B_Md_label_48 43 (l : Int) (w : Int) h = some (P (18 + 34 * l + w), h) := by
  obtain ⟨hL, -, hS, h0, -⟩ := hm
  have l4 : l < 4 := by have := hv.2.1; omega
  obtain ⟨s1, s2⟩ := hS.2.2.2 l hl
  obtain ⟨a1, a2, a3, a4⟩ := h0 l l4
  have hH := (hv.2.2.1 l l4)
  have kl0 : (0 : Int) ≤ (l : Int) := by omega
  have kl4 : (l : Int) < 4 := by omega
  rw [q_Md_label_48]
  by_cases w4 : 4 ≤ (w : Int)
  · rw [if_pos w4]
    by_cases e4 : (w : Int) = 4
    · have : w = 4 := by omega
      subst this
      rw [if_neg (by decide), p_43_4 hL, Option.bind_some, t46, r_46 hL kl0 kl4, Option.bind_some, tn, s1]
      unfold pH
      rw [show 18 + 34 * l + 4 = 22 + 34 * l by omega]
    · rw [if_pos e4]
      by_cases w8 : 8 ≤ (w : Int)
      · rw [if_pos w8]
        by_cases e8 : (w : Int) = 8
        · have : w = 8 := by omega
          subst this
          have k1 : (0 : Int) ≤ ((0 + 30 * l + 4 : Nat) : Int) := by omega
          have k2 : ((0 + 30 * l + 4 : Nat) : Int) < 1440 := by omega
          have e : w32 ((w32 (30 * (l : Int))) + 4) = ((0 + 30 * l + 4 : Nat) : Int) := w32_s2 (w := 4) l4 (by decide)
          rw [if_neg (by decide), p_43_14 hL, Option.bind_some, t53, e, r_53 hL k1 k2, Option.bind_some, tn, a2]
          clear e
          unfold pO
          rw [show 18 + 34 * l + 8 = 26 + 34 * l by omega]
        · have : w = 9 := by omega
          subst this
          have hmn := m_many hL h0 l4 (by decide)
          rw [show ((0 : Nat) : Int) = 0 from rfl] at hmn
          rw [if_pos e8, hmn, Option.bind_some]
          unfold pK
          rw [show 18 + 34 * l + 9 = 27 + 34 * l by omega]
      · obtain ⟨i, hi⟩ : ∃ i : Nat, w = 5 + i := ⟨w - 5, by omega⟩
        subst hi
        have i3 : i < 3 := by omega
        have hs2 := s2 i (by have := hh (by omega) (by omega); omega)
        have k1 : (0 : Int) ≤ ((3 * l + i : Nat) : Int) := by omega
        have k2 : ((3 * l + i : Nat) : Int) < 12 := by omega
        have e := w32_s1 l4 i3
        rw [if_neg w8, p_43_5 hL, Option.bind_some, t47, e, r_47 hL k1 k2, Option.bind_some, tn, hs2]
        clear e
        unfold pT
        rw [show 18 + 34 * l + (5 + i) = 23 + 34 * l + i by omega]
  · have w3 : w < 4 := by omega
    have k1 : (0 : Int) ≤ ((0 + 30 * l + w : Nat) : Int) := by omega
    have k2 : ((0 + 30 * l + w : Nat) : Int) < 1440 := by omega
    have e := w32_s2 (w := w) l4 (Nat.lt_of_lt_of_le w3 (by decide))
    rw [if_neg w4, p_43_14 hL, Option.bind_some, t53, e, r_53 hL k1 k2, Option.bind_some, tn, a1 w w3]
    rfl
theorem m_label (hm : MI L n T P U K h) (hv : Val P) (l w : Int) : F_Md_label 43 l w h = some (labelA P l w, h) := by
  obtain ⟨hL, -, hS, h0, -⟩ := id hm
  have h4 := hv.2.1
  unfold labelA
  rw [q_Md_label _ _ _ _ (o_43 hL), m_isLabel hL hS (by omega), Option.bind_some]
  dsimp only
  by_cases q : hasL P l
  · obtain ⟨m, rfl⟩ := n_of q.1
    have m4 : m < 4 := by have := q.2; omega
    obtain ⟨s1, s2⟩ := hS.2.2.2 m q.2
    have kl0 : (0 : Int) ≤ (m : Int) := by omega
    have kl4 : (m : Int) < 4 := by omega
    rw [b2i_t q, if_neg (by decide), c_in, Option.bind_some, tn]
    dsimp only
    by_cases r : 0 ≤ w ∧ w ≤ 9
    · obtain ⟨v, rfl⟩ := n_of r.1
      rw [b2i_t r, if_neg (by decide), c_in, Option.bind_some, tn]
      dsimp only
      by_cases p : 5 ≤ (v : Int) ∧ (v : Int) ≤ 7
      · have e : w32 ((v : Int) - 5) = (v : Int) - 5 := w32_id (by omega) (by omega)
        rw [b2i_t p, if_neg (by decide), p_43_4 hL, Option.bind_some, t46, r_46 hL kl0 kl4, Option.bind_some, tn, s1, e]
        clear e
        by_cases z : (v : Int) - 5 < pH P m
        · rw [if_pos z, m_lab48 hm hv q.2 (by omega) (fun _ _ => z), iteP_t ⟨q, r, fun _ _ => z⟩]
        · rw [if_neg z, iteP_f (fun y => z (y.2.2 p.1 p.2))]
      · rw [b2i_f p, if_pos rfl, m_lab48 hm hv q.2 (by omega) (fun a b => absurd ⟨by omega, by omega⟩ p), iteP_t ⟨q, r, fun a b => absurd ⟨a, b⟩ p⟩]
    · rw [b2i_f r, if_pos rfl, iteP_f (fun z => r z.2.1)]
  · rw [b2i_f q, if_pos rfl, iteP_f (fun z => q z.1)]
end Md

/-! THE MODEL READS: a label -/
section Mp
variable {L n i : Nat} {T Q R : Nat → Int} {h : mH} {W : Prop}
theorem m_la122u (hx : Mx L n T h) (hi : h.2 43 19 = (i : Int)) (i9 : i ≤ 500) (hw : h.2 43 21 = b2i W) {l : Nat} (l4 : l < 4) (h9 : h.2 43 9 = (l : Int)) (x : Int) (o : Option mV) :
    ∃ h' v j, B_Md_labelItem_122 43 x o h = some h' ∧ Mp h h' ∧ h'.2 43 19 = ((j : Nat) : Int) ∧ j ≤ 900 ∧ h'.2 43 21 = b2i ((W ∨ pk T n i ≠ 44) ∨ NW T n (i + 1) 1) ∧ (¬ ((W ∨ pk T n i ≠ 44) ∨ NW T n (i + 1) 1) → v = (nmS T n (i + 1)).1 ∧ j = (nmS T n (i + 1)).2) ∧
      h'.2 43 6 = h.2 43 6 ∧ h'.2 43 9 = ((l + 1 : Nat) : Int) ∧ h'.2 43 13 = h.2 43 13 ∧ h'.2 48 = h.2 48 ∧ h'.2 49 = h.2 49 ∧ h'.2 51 = h.2 51 ∧ h'.2 50 = ru (h.2 50) l x ∧ h'.2 52 = ru (h.2 52) (0 + 30 * l + 4) v := by
  have n2 := hx.2.2.1
  obtain ⟨h1, a1, a2, a3, a4⟩ := m_comma hx hi (by omega) hw
  have x1 := Mp_x (Mn_p a2) hx
  obtain ⟨h2, v, j, b1, b2, b3, b4, b5, b6⟩ := m_number x1 a3 (by omega) a4 1
  have x2 := Mp_x (Mn_p b2) x1
  have fr := Mn_tr a2 b2
  have J : j ≤ 900 := bnd b4 (by omega) (by omega)
  have q4 : 0 + 30 * l + 4 < 120 := by omega
  have e4 : w32 ((w32 (30 * (l : Int))) + 4) = ((0 + 30 * l + 4 : Nat) : Int) := ix2 (c := 4) l4 (by decide)
  have L3 : LyM L (mw h2 52 (0 + 30 * l + 4) v) := LyM_mw x2.1 rfl
  have L4 : LyM L (mw (mw h2 52 (0 + 30 * l + 4) v) 50 l x) := LyM_mw L3 rfl
  have g9 : gfd 6 9 h1 43 = some (l : Int) := by rw [g_43 x1.1 (by decide), a2.2.2 9 (by decide) (by decide), h9]
  have g9b : gfd 6 9 (mw h2 52 (0 + 30 * l + 4) v) 43 = some (l : Int) := by rw [g_43 L3 (by decide), mw_o _ _ _ (by decide), fr.2.2 9 (by decide) (by decide), h9]
  have g9c : gfd 6 9 (mw (mw h2 52 (0 + 30 * l + 4) v) 50 l x) 43 = some (l : Int) := by rw [g_43 L4 (by decide), mw_o _ _ _ (by decide), mw_o _ _ _ (by decide), fr.2.2 9 (by decide) (by decide), h9]
  refine ⟨mw (mw (mw h2 52 (0 + 30 * l + 4) v) 50 l x) 43 9 ((l + 1 : Nat) : Int), v, j, ?_, Mp_tr (Mn_p fr) (Mp_tr (Mp_r _ _ _ (by decide) (by decide)) (Mp_tr (Mp_r _ _ _ (by decide) (by decide)) (Mp_43 _ _ (by decide)))), ?_, J, ?_, b6, ?_, mw_s _ _ _ _, ?_, ?_, ?_, ?_, ?_, ?_⟩
  · rw [q_Md_labelItem_122, a1, Option.bind_some, p_43_12 x1.1, Option.bind_some, g9, Option.bind_some, b1, Option.bind_some]
    dsimp only
    rw [e4, st52 x2.1 q4, Option.bind_some, p_43_10 L3, Option.bind_some, g9b, Option.bind_some, st50 L3 l4, Option.bind_some, g9c, Option.bind_some, w32_nn l (by clear e4; omega), f_43 L4 (by decide), Option.bind_some]
  · rw [mw_d _ _ (by decide), mw_o _ _ _ (by decide), mw_o _ _ _ (by decide)]; exact b3
  · rw [mw_d _ _ (by decide), mw_o _ _ _ (by decide), mw_o _ _ _ (by decide)]; exact b5
  · rw [mw_d _ _ (by decide), mw_o _ _ _ (by decide), mw_o _ _ _ (by decide)]; exact fr.2.2 6 (by decide) (by decide)
  · rw [mw_d _ _ (by decide), mw_o _ _ _ (by decide), mw_o _ _ _ (by decide)]; exact fr.2.2 13 (by decide) (by decide)
  · rw [mw_o _ _ _ (by decide), mw_o _ _ _ (by decide), mw_o _ _ _ (by decide)]; exact fr.2.1 48 (by decide)
  · rw [mw_o _ _ _ (by decide), mw_o _ _ _ (by decide), mw_o _ _ _ (by decide)]; exact fr.2.1 49 (by decide)
  · rw [mw_o _ _ _ (by decide), mw_o _ _ _ (by decide), mw_o _ _ _ (by decide)]; exact fr.2.1 51 (by decide)
  · rw [mw_o _ _ _ (by decide), mw_r, mrow_s, mw_o _ _ _ (by decide), fr.2.1 50 (by decide)]
  · rw [mw_o _ _ _ (by decide), mw_o _ _ _ (by decide), mw_r, mrow_s, fr.2.1 52 (by decide)]
theorem m_la62w (hx : Mx L n T h) (hi : h.2 43 19 = (i : Int)) (i9 : i ≤ 500) (hw : h.2 43 21 = 1) {l : Nat} (l4 : l < 4) (h9 : h.2 43 9 = (l : Int)) (x : Int) (o : Option mV) : MIt L n T h none (B_Md_labelItem_62 43 x o h) := by
  obtain ⟨h', v, j, a1, a2, a3, a4, a5, -⟩ := m_la122u (W := True) hx hi i9 (hw.trans (b2i_t trivial).symm) l4 h9 x o
  rw [q_Md_labelItem_62, g_43 hx.1 (by decide), Option.bind_some, hw, if_pos (by decide)]
  exact MIt_w a1 a2 a3 a4 (a5.trans (b2i_t (Or.inl (Or.inl trivial))))
theorem m_la27w {l : Nat} (l4 : l < 4) : ∀ (m r i : Nat) (h : mH), r + m = 4 → i + m ≤ 499 → Mx L n T h → h.2 43 19 = (i : Int) → h.2 43 21 = 1 → h.2 43 9 = (l : Int) → h.2 43 6 = pS Q → 0 ≤ pS Q ∧ pS Q ≤ 4 → MIt L n T h none (B_Md_labelItem_27 43 (r : Int) h)
  | 0, r, i, h, e, im, hx, hi, hw, h9, h6, s4 => by
    have : r = 4 := by omega
    subst this
    obtain ⟨h1, a1, a2, a3, a4⟩ := m_comma (W := True) hx hi (by omega) (hw.trans (b2i_t trivial).symm)
    have x1 := Mp_x (Mn_p a2) hx
    rw [q_Md_labelItem_27, if_pos (by decide), a1, Option.bind_some]
    exact MIt_tr (Mn_p a2) (m_la62w x1 a3 (by omega) (a4.trans (b2i_t (Or.inl trivial))) l4 (by rw [a2.2.2 9 (by decide) (by decide)]; exact h9) 0 none)
  | m + 1, r, i, h, e, im, hx, hi, hw, h9, h6, s4 => by
    have hL := hx.1
    have r30 : r < 30 := by omega
    have q0 : 0 + 30 * l + r < 120 := by omega
    obtain ⟨h1, v, a1, a2, -⟩ := m_type (W := True) (Q := Q) hx hi (by omega) (hw.trans (b2i_t trivial).symm) h6 s4
    have fr : Mp h h1 := by rw [a2]; exact Mp_tr (Mp_43 h _ (by decide)) (Mp_tr (Mp_43 _ _ (by decide)) (Mp_43 _ _ (by decide)))
    have x1 := Mp_x fr hx
    have fr2 := Mp_tr fr (Mp_r h1 (0 + 30 * l + r) v (a := 52) (by decide) (by decide))
    rw [q_Md_labelItem_27, if_neg (by omega), p_43_12 hL, Option.bind_some, g_43 hL (by decide), Option.bind_some, h9, a1, Option.bind_some]
    dsimp only
    rw [ix2 l4 r30, st52 x1.1 q0, Option.bind_some, w32_nn r (by omega)]
    refine MIt_tr fr2 (m_la27w l4 m (r + 1) (i + 1) _ (by omega) (by omega) (Mp_x fr2 hx) ?_ ?_ ?_ ?_ s4)
    · rw [mw_o _ _ _ (by decide), a2, mw_s]
    · rw [mw_o _ _ _ (by decide), a2, mw_d _ _ (by decide), mw_d _ _ (by decide), mw_s, b2i_t (Or.inl trivial)]
    · rw [mw_o _ _ _ (by decide), a2, mw_d _ _ (by decide), mw_d _ _ (by decide), mw_d _ _ (by decide)]; exact h9
    · rw [mw_o _ _ _ (by decide), a2, mw_d _ _ (by decide), mw_d _ _ (by decide), mw_d _ _ (by decide)]; exact h6
end Mp

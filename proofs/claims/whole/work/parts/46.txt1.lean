/-! THE TEXT: letters, figures, numbers -/
def pk (T : Nat → Int) (n i : Nat) : Int := if i < n then T i else -1
def isFg (v : Int) : Prop := 48 ≤ v ∧ v ≤ 57
/-- the text is read at a place, a program is told -/
def TI (L n : Nat) (T : Nat → Int) (i : Nat) (Q : Nat → Int) (h : mH) : Prop := Ly L h ∧ (h.2 7 2 = (n : Int) ∧ n ≤ 200 ∧ ∀ j, j < n → h.2 10 j = T j) ∧ h.2 7 3 = (i : Int) ∧ h.2 9 = Q ∧ Zr Q
/-- the told program and the place alone are changed -/
def TX (h h' : mH) : Prop := h'.1 = h.1 ∧ (∀ a, a ≠ 7 → a ≠ 9 → h'.2 a = h.2 a) ∧ (∀ j, j ≠ 3 → h'.2 7 j = h.2 7 j) ∧ (Zr (h.2 9) → Zr (h'.2 9))
theorem TX_rf (h : mH) : TX h h := ⟨rfl, fun _ _ _ => rfl, fun _ _ => rfl, fun z => z⟩
theorem TX_tr {h h1 h2 : mH} (a : TX h h1) (b : TX h1 h2) : TX h h2 := ⟨b.1.trans a.1, fun k h1 h2 => (b.2.1 k h1 h2).trans (a.2.1 k h1 h2), fun j hj => (b.2.2.1 j hj).trans (a.2.2.1 j hj), fun z => b.2.2.2 (a.2.2.2 z)⟩
theorem TX_at (h : mH) (v : Int) : TX h (mw h 7 3 v) := ⟨rfl, fun a h1 _ => mw_o h 3 v h1, fun j hj => mw_d h v hj, fun z => by rw [mw_o _ _ _ (by decide)]; exact z⟩
theorem TX_row (h : mH) {Q : Nat → Int} (hz : Zr Q) : TX h (mrow h 9 Q) := ⟨rfl, fun a _ h2 => mrow_o h Q h2, fun j _ => by rw [mrow_o _ _ (by decide)], fun _ => by rw [mrow_s]; exact hz⟩
section Tx
variable {L n i : Nat} {T Q : Nat → Int} {h : mH}
theorem TI_at (ht : TI L n T i Q h) (k : Nat) : TI L n T k Q (mw h 7 3 (k : Int)) := by
  obtain ⟨hL, ⟨t1, t2, t3⟩, ha, hq, hz⟩ := ht
  exact ⟨Ly_mw hL rfl, ⟨by rw [mw_d _ _ (by decide)]; exact t1, t2, by rw [mw_o _ _ _ (by decide)]; exact t3⟩, mw_s _ _ _ _, by rw [mw_o _ _ _ (by decide)]; exact hq, hz⟩
theorem TI_row (ht : TI L n T i Q h) {Q' : Nat → Int} (hz : Zr Q') : TI L n T i Q' (mrow h 9 Q') := by
  obtain ⟨hL, ⟨t1, t2, t3⟩, ha, hq, -⟩ := ht
  exact ⟨Ly_row hL (fun j => rfl), ⟨by rw [mrow_o _ _ (by decide)]; exact t1, t2, by rw [mrow_o _ _ (by decide)]; exact t3⟩, by rw [mrow_o _ _ (by decide)]; exact ha, mrow_s _ _ _, hz⟩
theorem TI_pg (ht : TI L n T i Q h) : PgO h 8 := Ly_pg ht.1 (by simp)
theorem t8 : (8 : Int).toNat = 8 := rfl
theorem t10 : (10 : Int).toNat = 10 := rfl
theorem c_peek (ht : TI L n T i Q h) : F_Tx_peek 7 h = some (pk T n i, h) := by
  obtain ⟨hL, ⟨t1, t2, t3⟩, ha, hq, hz⟩ := ht
  have g3 : gfd 4 3 h 7 = some (i : Int) := by rw [g_7 hL (by decide), ha]
  have g2 : gfd 4 2 h 7 = some (n : Int) := by rw [g_7 hL (by decide), t1]
  have k0 : ¬ (i : Int) < 0 := by omega
  unfold pk
  rw [q_Tx_peek _ _ (o_7 hL), g3, Option.bind_some, if_neg k0, Option.bind_some, g2, Option.bind_some]
  by_cases q : i < n
  · have k1 : ¬ (n : Int) ≤ (i : Int) := by omega
    have k2 : ¬ 200 ≤ (i : Int) := by omega
    have k3 : (0 : Int) ≤ (i : Int) := by omega
    have k4 : (i : Int) < 200 := by omega
    rw [if_neg k1, Option.bind_some, if_neg k2, p_7_1 hL, Option.bind_some, Option.bind_some, t10, r_10 hL k3 k4, Option.bind_some, tn, t3 i q, if_pos q]
  · rw [if_pos (by omega), if_neg q]
theorem c_isFigure (v : Int) (h : mH) : F_Tx_isFigure v h = some (b2i (isFg v), h) := by
  rw [q_Tx_isFigure]
  by_cases h1 : v < 48
  · rw [if_pos h1, b2i_f (by unfold isFg; omega)]
  · rw [if_neg h1]
    by_cases h2 : 57 < v
    · rw [if_pos h2, b2i_f (by unfold isFg; omega)]
    · rw [if_neg h2, b2i_t (by unfold isFg; omega)]
theorem isFg_lt {T : Nat → Int} {n i : Nat} (h : isFg (pk T n i)) : i < n := by
  unfold isFg pk at h
  by_cases q : i < n
  · exact q
  · rw [if_neg q] at h; omega
/-- a figure: what it is, the place behind it -/
noncomputable def fgS (T : Nat → Int) (n i : Nat) : Int × Nat := iteP (isFg (pk T n i)) (pk T n i - 48, i + 1) (-1, i)
noncomputable def nmS (T : Nat → Int) (n i : Nat) : Int × Nat := iteP (isFg (pk T n i)) (iteP (isFg (pk T n (i + 1))) ((pk T n i - 48) * 10 + (pk T n (i + 1) - 48), i + 2) (pk T n i - 48, i + 1)) (-1, i)
theorem c_next (ht : TI L n T i Q h) (hi : i < 1000) : gfd 4 3 h 7 = some (i : Int) ∧ pfd 4 3 h 7 (w32 ((i : Int) + 1)) = some (mw h 7 3 ((i + 1 : Nat) : Int)) := by
  refine ⟨by rw [g_7 ht.1 (by decide), ht.2.2.1], ?_⟩
  rw [w32_nn i hi, f_7 ht.1 (by decide)]
theorem c_readFigure (ht : TI L n T i Q h) : ∃ h', F_Tx_readFigure 7 h = some ((fgS T n i).1, h') ∧ TI L n T (fgS T n i).2 Q h' ∧ TX h h' := by
  unfold fgS
  rw [q_Tx_readFigure _ _ (o_7 ht.1), c_peek ht, Option.bind_some]
  dsimp only
  rw [c_isFigure, Option.bind_some]
  dsimp only
  by_cases q : isFg (pk T n i)
  · have hi : i < 1000 := by have := isFg_lt q; have := ht.2.1.2.1; omega
    obtain ⟨a1, a2⟩ := c_next ht hi
    have k6 : -2147483648 ≤ pk T n i - 48 := by unfold isFg at q; omega
    have k7 : pk T n i - 48 < 2147483648 := by unfold isFg at q; omega
    rw [iteP_t q, b2i_t q, if_pos (by decide), a1, Option.bind_some, a2, Option.bind_some, w32_id k6 k7]
    exact ⟨_, rfl, TI_at ht (i + 1), TX_at h _⟩
  · rw [iteP_f q, b2i_f q, if_neg (by decide)]
    exact ⟨h, rfl, ht, TX_rf h⟩
theorem c_readNumber (ht : TI L n T i Q h) : ∃ h', F_Tx_readNumber 7 h = some ((nmS T n i).1, h') ∧ TI L n T (nmS T n i).2 Q h' ∧ TX h h' := by
  obtain ⟨h1, a1, a2, a3⟩ := c_readFigure ht
  unfold nmS
  rw [q_Tx_readNumber _ _ (o_7 ht.1), a1, Option.bind_some]
  dsimp only
  by_cases q : isFg (pk T n i)
  · have e1 : fgS T n i = (pk T n i - 48, i + 1) := iteP_t q _ _
    rw [e1] at a2
    rw [e1, iteP_t q, if_pos (by unfold isFg at q; show 0 ≤ pk T n i - 48; omega)]
    obtain ⟨h2, b1, b2, b3⟩ := c_readFigure a2
    rw [b1, Option.bind_some]
    dsimp only
    by_cases r : isFg (pk T n (i + 1))
    · have e2 : fgS T n (i + 1) = (pk T n (i + 1) - 48, i + 1 + 1) := iteP_t r _ _
      rw [e2] at b2
      have k1 : 0 ≤ pk T n (i + 1) - 48 := by unfold isFg at r; omega
      have k6 : -2147483648 ≤ (pk T n i - 48) * 10 := by unfold isFg at q; omega
      have k7 : (pk T n i - 48) * 10 < 2147483648 := by unfold isFg at q; omega
      have k8 : -2147483648 ≤ (pk T n i - 48) * 10 + (pk T n (i + 1) - 48) := by unfold isFg at q r; omega
      have k9 : (pk T n i - 48) * 10 + (pk T n (i + 1) - 48) < 2147483648 := by unfold isFg at q r; omega
      rw [e2, iteP_t r, if_pos k1, w32_id k6 k7, w32_id k8 k9]
      exact ⟨h2, rfl, b2, TX_tr a3 b3⟩
    · have e2 : fgS T n (i + 1) = (-1, i + 1) := iteP_f r _ _
      rw [e2] at b2
      rw [e2, iteP_f r, if_neg (show ¬ (0 : Int) ≤ -1 by decide)]
      exact ⟨h2, rfl, b2, TX_tr a3 b3⟩
  · have e1 : fgS T n i = (-1, i) := iteP_f q _ _
    rw [e1] at a2
    rw [e1, iteP_f q, if_neg (show ¬ (0 : Int) ≤ -1 by decide)]
    exact ⟨h1, rfl, a2, a3⟩
theorem c_tpasses (ht : TI L n T i Q h) {c : Int} (hc : 0 ≤ c) : ∃ h', F_Tx_passes 7 c h = some (b2i (pk T n i = c), h') ∧ iteP (pk T n i = c) (TI L n T (i + 1) Q h') (TI L n T i Q h') ∧ TX h h' := by
  rw [q_Tx_passes _ _ _ (o_7 ht.1), c_peek ht, Option.bind_some]
  dsimp only
  by_cases q : pk T n i = c
  · have hi : i < 1000 := by
      have : i < n := by
        by_cases r : i < n
        · exact r
        · unfold pk at q; rw [if_neg r] at q; omega
      have := ht.2.1.2.1
      omega
    obtain ⟨a1, a2⟩ := c_next ht hi
    refine ⟨mw h 7 3 ((i + 1 : Nat) : Int), ?_, ?_, TX_at h _⟩
    · rw [if_pos q, a1, Option.bind_some, a2, Option.bind_some, b2i_t q]
    · rw [iteP_t q]; exact TI_at ht (i + 1)
  · refine ⟨h, ?_, ?_, TX_rf h⟩
    · rw [if_neg q, b2i_f q]
    · rw [iteP_f q]; exact ht
end Tx

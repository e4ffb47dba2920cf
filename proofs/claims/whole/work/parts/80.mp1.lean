/-! THE MODEL READS: letters, numbers -/
def Mx (L n : Nat) (T : Nat → Int) (h : mH) : Prop := LyM L h ∧ h.2 43 17 = (n : Int) ∧ n ≤ 200 ∧ ∀ i, i < n → h.2 54 i = T i
/-- what reading an item may change -/
def Mp (h h' : mH) : Prop := h'.1 = h.1 ∧ (∀ a, a ≠ 43 → (a < 48 ∨ 52 < a) → h'.2 a = h.2 a) ∧ ∀ j, j ≠ 6 → j ≠ 9 → j ≠ 13 → j ≠ 19 → j ≠ 21 → h'.2 43 j = h.2 43 j
theorem Mp_rf (h : mH) : Mp h h := ⟨rfl, fun _ _ _ => rfl, fun _ _ _ _ _ _ => rfl⟩
theorem Mp_tr {h h1 h2 : mH} (a : Mp h h1) (b : Mp h1 h2) : Mp h h2 := ⟨b.1.trans a.1, fun k k1 k2 => (b.2.1 k k1 k2).trans (a.2.1 k k1 k2), fun j h1 h2 h3 h4 h5 => (b.2.2 j h1 h2 h3 h4 h5).trans (a.2.2 j h1 h2 h3 h4 h5)⟩
theorem Mp_43 (h : mH) {j : Nat} (v : Int) (hj : j = 6 ∨ j = 9 ∨ j = 13 ∨ j = 19 ∨ j = 21) : Mp h (mw h 43 j v) := ⟨rfl, fun a k1 _ => mw_o _ _ _ k1, fun i h1 h2 h3 h4 h5 => mw_d _ _ (by omega)⟩
theorem Mp_r (h : mH) {a : Nat} (j : Nat) (v : Int) (h1 : 48 ≤ a) (h2 : a ≤ 52) : Mp h (mw h a j v) := ⟨rfl, fun b k1 k2 => mw_o _ _ _ (by omega), fun i _ _ _ _ _ => by rw [mw_o _ _ _ (by omega)]⟩
theorem Mp_Ly {L : Nat} {h h' : mH} (f : Mp h h') (hL : LyM L h) : LyM L h' := by
  refine ⟨f.1.trans hL.1, fun a j v e => ?_⟩
  by_cases q : a = 43
  · subst q
    by_cases w : j ≠ 6 ∧ j ≠ 9 ∧ j ≠ 13 ∧ j ≠ 19 ∧ j ≠ 21
    · rw [f.2.2 j w.1 w.2.1 w.2.2.1 w.2.2.2.1 w.2.2.2.2]; exact hL.2 43 j v e
    · exfalso
      have : j = 6 ∨ j = 9 ∨ j = 13 ∨ j = 19 ∨ j = 21 := by omega
      rcases this with z | z | z | z | z <;> subst z <;> cases e
  · by_cases w : a < 48 ∨ 52 < a
    · rw [f.2.1 a q w]; exact hL.2 a j v e
    · exfalso
      have : a = 48 ∨ a = 49 ∨ a = 50 ∨ a = 51 ∨ a = 52 := by omega
      rcases this with z | z | z | z | z <;> subst z <;> cases e
theorem Mp_x {L n : Nat} {T : Nat → Int} {h h' : mH} (f : Mp h h') (hx : Mx L n T h) : Mx L n T h' :=
  ⟨Mp_Ly f hx.1, by rw [f.2.2 17 (by decide) (by decide) (by decide) (by decide) (by decide)]; exact hx.2.1, hx.2.2.1, by rw [f.2.1 54 (by decide) (by decide)]; exact hx.2.2.2⟩
/-- the place and whether it is wrong alone are changed -/
def Mn (h h' : mH) : Prop := h'.1 = h.1 ∧ (∀ a, a ≠ 43 → h'.2 a = h.2 a) ∧ ∀ j, j ≠ 19 → j ≠ 21 → h'.2 43 j = h.2 43 j
theorem Mn_p {h h' : mH} (f : Mn h h') : Mp h h' := ⟨f.1, fun a h1 _ => f.2.1 a h1, fun j _ _ _ h4 h5 => f.2.2 j h4 h5⟩
theorem Mn_rf (h : mH) : Mn h h := ⟨rfl, fun _ _ => rfl, fun _ _ _ => rfl⟩
theorem Mn_tr {h h1 h2 : mH} (a : Mn h h1) (b : Mn h1 h2) : Mn h h2 := ⟨b.1.trans a.1, fun k k1 => (b.2.1 k k1).trans (a.2.1 k k1), fun j h1 h2 => (b.2.2 j h1 h2).trans (a.2.2 j h1 h2)⟩
theorem Mn_43 (h : mH) {j : Nat} (v : Int) (hj : j = 19 ∨ j = 21) : Mn h (mw h 43 j v) := ⟨rfl, fun a k1 => mw_o _ _ _ k1, fun i h1 h2 => mw_d _ _ (by omega)⟩
theorem bz_b (p : Prop) {α : Type} (f : Unit → Option α) : (bz (b2i p)).bind f = f () := by
  by_cases q : p
  · rw [b2i_t q]; rfl
  · rw [b2i_f q]; rfl
section Mp
variable {L n i : Nat} {T : Nat → Int} {h : mH} {W : Prop}
theorem m_letter (hx : Mx L n T h) (k : Nat) : F_Md_letterAt 43 (k : Int) h = some (pk T n k, h) := by
  obtain ⟨hL, t1, t2, t3⟩ := hx
  unfold pk
  rw [q_Md_letterAt _ _ _ (o_43 hL), g_43 hL (by decide), Option.bind_some, t1]
  by_cases q : k < n
  · rw [if_neg (by omega), p_43_18 hL, Option.bind_some, t54, r_54 hL (by omega) (by omega), Option.bind_some, tn, t3 k q, if_pos q]
  · rw [if_pos (by omega), if_neg q]
theorem m_isFig (hx : Mx L n T h) (hi : h.2 43 19 = (i : Int)) : F_Md_isFigure 43 h = some (b2i (isFg (pk T n i)), h) := by
  rw [q_Md_isFigure _ _ (o_43 hx.1), g_43 hx.1 (by decide), Option.bind_some, hi, m_letter hx, Option.bind_some]
  dsimp only
  rw [c_in, Option.bind_some]
  dsimp only
  rw [rz_b]
  rfl
theorem m_comma (hx : Mx L n T h) (hi : h.2 43 19 = (i : Int)) (i1 : i < 1000) (hw : h.2 43 21 = b2i W) : ∃ h', F_Md_comma 43 h = some h' ∧ Mn h h' ∧ h'.2 43 19 = ((i + 1 : Nat) : Int) ∧ h'.2 43 21 = b2i (W ∨ pk T n i ≠ 44) := by
  have hL := hx.1
  have fin : ∀ s : Int, s = b2i (W ∨ pk T n i ≠ 44) → ∃ h', B_Md_comma_26 43 s 43 h = some h' ∧ Mn h h' ∧ h'.2 43 19 = ((i + 1 : Nat) : Int) ∧ h'.2 43 21 = b2i (W ∨ pk T n i ≠ 44) := fun s hs => by
    have L1 : LyM L (mw h 43 21 s) := LyM_mw hL rfl
    refine ⟨mw (mw h 43 21 s) 43 19 ((i + 1 : Nat) : Int), ?_, Mn_tr (Mn_43 h _ (Or.inr rfl)) (Mn_43 _ _ (Or.inl rfl)), mw_s _ _ _ _, by rw [mw_d _ _ (by decide), mw_s, hs]⟩
    rw [q_Md_comma_26]
    rw [hs] at L1 ⊢
    rw [bz_b, f_43 hL (by decide), Option.bind_some, g_43 L1 (by decide), Option.bind_some, mw_d _ _ (by decide), hi, w32_nn i i1, f_43 L1 (by decide), Option.bind_some]
  rw [q_Md_comma _ _ (o_43 hL), g_43 hL (by decide), Option.bind_some, hw]
  by_cases q : W
  · rw [b2i_t q, if_pos (by decide), q_Md_comma_21]
    exact fin 1 (b2i_t (Or.inl q)).symm
  · rw [b2i_f q, if_neg (by decide), g_43 hL (by decide), Option.bind_some, hi, m_letter hx, Option.bind_some]
    dsimp only
    by_cases r : pk T n i = 44
    · rw [if_pos r]
      exact fin 0 (b2i_f (fun z => z.elim q (fun z => z r))).symm
    · rw [if_neg r, q_Md_comma_21]
      exact fin 1 (b2i_t (Or.inr r)).symm
/-- a number ends -/
theorem m_nE (hx : Mx L n T h) (hi : h.2 43 19 = (i : Int)) (hw : h.2 43 21 = b2i W) (hf : ¬ isFg (pk T n i)) (lo hi' v f : Int) : ∃ h', B_Md_number_5 43 lo hi' v f h = some (iteP (W ∨ ¬ (1 ≤ f ∧ f ≤ 2) ∨ ¬ (lo ≤ v ∧ v ≤ hi')) 0 v, h') ∧ Mn h h' ∧ h'.2 43 19 = (i : Int) ∧ h'.2 43 21 = b2i (W ∨ ¬ (1 ≤ f ∧ f ≤ 2) ∨ ¬ (lo ≤ v ∧ v ≤ hi')) := by
  have hL := hx.1
  have fin : ∀ s : Int, s = b2i (W ∨ ¬ (1 ≤ f ∧ f ≤ 2) ∨ ¬ (lo ≤ v ∧ v ≤ hi')) → ∃ h', B_Md_number_107 43 lo hi' v f s 43 h = some (iteP (W ∨ ¬ (1 ≤ f ∧ f ≤ 2) ∨ ¬ (lo ≤ v ∧ v ≤ hi')) 0 v, h') ∧ Mn h h' ∧ h'.2 43 19 = (i : Int) ∧ h'.2 43 21 = b2i (W ∨ ¬ (1 ≤ f ∧ f ≤ 2) ∨ ¬ (lo ≤ v ∧ v ≤ hi')) := fun s hs => by
    have L1 : LyM L (mw h 43 21 s) := LyM_mw hL rfl
    refine ⟨mw h 43 21 s, ?_, Mn_43 h _ (Or.inr rfl), by rw [mw_d _ _ (by decide)]; exact hi, by rw [mw_s, hs]⟩
    rw [q_Md_number_107]
    rw [hs] at L1 ⊢
    rw [bz_b, f_43 hL (by decide), Option.bind_some, g_43 L1 (by decide), Option.bind_some, mw_s]
    by_cases q : W ∨ ¬ (1 ≤ f ∧ f ≤ 2) ∨ ¬ (lo ≤ v ∧ v ≤ hi')
    · rw [b2i_t q, if_neg (by decide), iteP_t q]
    · rw [b2i_f q, if_pos rfl, iteP_f q]
  rw [q_Md_number_5, g_43 hL (by decide), Option.bind_some, hi, m_letter hx, Option.bind_some]
  dsimp only
  rw [c_in, Option.bind_some]
  dsimp only
  rw [b2i_f (p := 48 ≤ pk T n i ∧ pk T n i ≤ 57) hf, if_pos rfl, g_43 hL (by decide), Option.bind_some, hw]
  by_cases q : W
  · rw [b2i_t q, if_pos (by decide), q_Md_number_102]
    exact fin 1 (b2i_t (Or.inl q)).symm
  · rw [b2i_f q, if_neg (by decide), c_in, Option.bind_some]
    dsimp only
    by_cases r : 1 ≤ f ∧ f ≤ 2
    · rw [b2i_t r, if_neg (by decide), c_in, Option.bind_some]
      dsimp only
      by_cases s : lo ≤ v ∧ v ≤ hi'
      · rw [b2i_t s, if_pos (by decide)]
        exact fin 0 (b2i_f (fun z => z.elim q (fun z => z.elim (fun z => z r) (fun z => z s)))).symm
      · rw [b2i_f s, if_neg (by decide), q_Md_number_102]
        exact fin 1 (b2i_t (Or.inr (Or.inr s))).symm
    · rw [b2i_f r, if_pos rfl, q_Md_number_102]
      exact fin 1 (b2i_t (Or.inr (Or.inl r))).symm
/-- a figure more -/
theorem m_nF (hx : Mx L n T h) (hi : h.2 43 19 = (i : Int)) (hf : isFg (pk T n i)) (lo hi' : Int) {v : Int} (hv : 0 ≤ v ∧ v < 1000) {f : Nat} (hf9 : f < 900) : ∃ h', B_Md_number_5 43 lo hi' v (f : Int) h = B_Md_number_5 43 lo hi' (if 2 ≤ f then v else 10 * v + (pk T n i - 48)) ((f + 1 : Nat) : Int) h' ∧ Mn h h' ∧ h'.2 43 19 = ((i + 1 : Nat) : Int) ∧ h'.2 43 21 = h.2 43 21 := by
  have hL := hx.1
  have i1 : i < 1000 := by have := isFg_lt hf; have := hx.2.2.1; omega
  refine ⟨mw h 43 19 ((i + 1 : Nat) : Int), ?_, Mn_43 h _ (Or.inl rfl), mw_s _ _ _ _, mw_d _ _ (by decide)⟩
  have hf' := hf
  unfold isFg at hf'
  rw [q_Md_number_5, g_43 hL (by decide), Option.bind_some, hi, m_letter hx, Option.bind_some]
  dsimp only
  rw [c_in, Option.bind_some]
  dsimp only
  rw [b2i_t (p := 48 ≤ pk T n i ∧ pk T n i ≤ 57) hf, if_neg (by decide)]
  by_cases q : 2 ≤ f
  · rw [if_pos (by omega), if_pos q, q_Md_number_52, g_43 hL (by decide), Option.bind_some, hi, w32_nn i i1, f_43 hL (by decide), Option.bind_some, w32_nn f (by omega)]
  · rw [if_neg (by omega), if_neg q, g_43 hL (by decide), Option.bind_some, hi, m_letter hx, Option.bind_some]
    dsimp only
    rw [q_Md_number_52, g_43 hL (by decide), Option.bind_some, hi, w32_nn i i1, f_43 hL (by decide), Option.bind_some, w32_nn f (by omega), w32_id (x := 10 * v) (by omega) (by omega), w32_id (x := 10 * v + pk T n i) (by omega) (by omega), w32_id (by omega) (by omega), show 10 * v + pk T n i - 48 = 10 * v + (pk T n i - 48) by omega]
/-- figures from the third on -/
theorem m_nA (lo hi' : Int) {v : Int} (hv : 0 ≤ v ∧ v < 1000) : ∀ (m i f : Nat) (h : mH), n ≤ i + m → 2 ≤ f → f + m < 900 → i ≤ 900 → Mx L n T h → h.2 43 19 = (i : Int) → h.2 43 21 = b2i W →
    ∃ h' j, B_Md_number_5 43 lo hi' v (f : Int) h = some (iteP (W ∨ (f ≠ 2 ∨ isFg (pk T n i)) ∨ ¬ (lo ≤ v ∧ v ≤ hi')) 0 v, h') ∧ Mn h h' ∧ h'.2 43 19 = ((j : Nat) : Int) ∧ (j ≤ i ∨ j ≤ n) ∧ h'.2 43 21 = b2i (W ∨ (f ≠ 2 ∨ isFg (pk T n i)) ∨ ¬ (lo ≤ v ∧ v ≤ hi')) ∧ (¬ isFg (pk T n i) → j = i)
  | 0, i, f, h, e, h2, h9, i9, hx, hi, hw => by
    have nf : ¬ isFg (pk T n i) := fun z => by have := isFg_lt z; omega
    obtain ⟨h', a1, a2, a3, a4⟩ := m_nE hx hi hw nf lo hi' v (f : Int)
    have ec : (W ∨ ¬ (1 ≤ (f : Int) ∧ (f : Int) ≤ 2) ∨ ¬ (lo ≤ v ∧ v ≤ hi')) ↔ (W ∨ (f ≠ 2 ∨ isFg (pk T n i)) ∨ ¬ (lo ≤ v ∧ v ≤ hi')) := by
      have : ¬ (1 ≤ (f : Int) ∧ (f : Int) ≤ 2) ↔ f ≠ 2 ∨ isFg (pk T n i) := ⟨fun z => Or.inl (by omega), fun z => z.elim (fun z => by omega) (fun z => absurd z nf)⟩
      rw [this]
    exact ⟨h', i, by rw [a1, iteP_c ec], a2, a3, Or.inl (Nat.le_refl _), by rw [a4, b2i_c ec], fun _ => rfl⟩
  | m + 1, i, f, h, e, h2, h9, i9, hx, hi, hw => by
    by_cases q : isFg (pk T n i)
    · have lt := isFg_lt q
      have n2 := hx.2.2.1
      obtain ⟨h1, a1, a2, a3, a4⟩ := m_nF hx hi q lo hi' hv (f := f) (by omega)
      rw [if_pos h2] at a1
      obtain ⟨h', j, z1, z2, z3, z4, z5, z6⟩ := m_nA lo hi' hv m (i + 1) (f + 1) h1 (by omega) (by omega) (by omega) (by omega) (Mp_x (Mn_p a2) hx) a3 (a4.trans hw)
      have ec : (W ∨ (f + 1 ≠ 2 ∨ isFg (pk T n (i + 1))) ∨ ¬ (lo ≤ v ∧ v ≤ hi')) ↔ (W ∨ (f ≠ 2 ∨ isFg (pk T n i)) ∨ ¬ (lo ≤ v ∧ v ≤ hi')) :=
        ⟨fun _ => Or.inr (Or.inl (Or.inr q)), fun _ => Or.inr (Or.inl (Or.inl (by omega)))⟩
      exact ⟨h', j, by rw [a1, z1, iteP_c ec], Mn_tr a2 z2, z3, by omega, by rw [z5, b2i_c ec], fun z => absurd q z⟩
    · obtain ⟨h', a1, a2, a3, a4⟩ := m_nE hx hi hw q lo hi' v (f : Int)
      have ec : (W ∨ ¬ (1 ≤ (f : Int) ∧ (f : Int) ≤ 2) ∨ ¬ (lo ≤ v ∧ v ≤ hi')) ↔ (W ∨ (f ≠ 2 ∨ isFg (pk T n i)) ∨ ¬ (lo ≤ v ∧ v ≤ hi')) := by
        have : ¬ (1 ≤ (f : Int) ∧ (f : Int) ≤ 2) ↔ f ≠ 2 ∨ isFg (pk T n i) := ⟨fun z => Or.inl (by omega), fun z => z.elim (fun z => by omega) (fun z => absurd z q)⟩
        rw [this]
      exact ⟨h', i, by rw [a1, iteP_c ec], a2, a3, Or.inl (Nat.le_refl _), by rw [a4, b2i_c ec], fun _ => rfl⟩
/-- a number that can not be -/
def NW (T : Nat → Int) (n i : Nat) (hi' : Int) : Prop := isFg (pk T n (nmS T n i).2) ∨ ¬ (0 ≤ (nmS T n i).1 ∧ (nmS T n i).1 ≤ hi')
theorem m_number (hx : Mx L n T h) (hi : h.2 43 19 = (i : Int)) (i9 : i ≤ 600) (hw : h.2 43 21 = b2i W) (hi' : Int) :
    ∃ h' v j, F_Md_number 43 0 hi' h = some (v, h') ∧ Mn h h' ∧ h'.2 43 19 = ((j : Nat) : Int) ∧ (j ≤ i ∨ j ≤ n) ∧ h'.2 43 21 = b2i (W ∨ NW T n i hi') ∧ (¬ (W ∨ NW T n i hi') → v = (nmS T n i).1 ∧ j = (nmS T n i).2) := by
  have n2 := hx.2.2.1
  rw [q_Md_number _ _ _ _ (o_43 hx.1)]
  by_cases q : isFg (pk T n i)
  · have lt := isFg_lt q
    obtain ⟨h1, a1, a2, a3, a4⟩ := m_nF hx hi q 0 hi' (v := 0) (by decide) (f := 0) (by decide)
    rw [if_neg (by decide), show ((0 : Nat) : Int) = 0 from rfl, show (10 : Int) * 0 + (pk T n i - 48) = pk T n i - 48 by omega] at a1
    have x1 := Mp_x (Mn_p a2) hx
    have w1 := a4.trans hw
    have q' := q
    unfold isFg at q'
    by_cases r : isFg (pk T n (i + 1))
    · have lt2 := isFg_lt r
      have r' := r
      unfold isFg at r'
      obtain ⟨h2, b1, b2, b3, b4⟩ := m_nF x1 a3 r 0 hi' (v := pk T n i - 48) (by omega) (f := 1) (by decide)
      rw [if_neg (by decide)] at b1
      obtain ⟨h', j, z1, z2, z3, z4, z5, z6⟩ := m_nA (W := W) (n := n) (T := T) (L := L) 0 hi' (v := 10 * (pk T n i - 48) + (pk T n (i + 1) - 48)) (by omega) n (i + 2) 2 h2 (by omega) (by omega) (by omega) (by omega) (Mp_x (Mn_p b2) x1) b3 (b4.trans w1)
      have en : nmS T n i = ((pk T n i - 48) * 10 + (pk T n (i + 1) - 48), i + 2) := by unfold nmS; rw [iteP_t q, iteP_t r]
      have ec : (W ∨ ((2 : Nat) ≠ 2 ∨ isFg (pk T n (i + 2))) ∨ ¬ (0 ≤ 10 * (pk T n i - 48) + (pk T n (i + 1) - 48) ∧ 10 * (pk T n i - 48) + (pk T n (i + 1) - 48) ≤ hi')) ↔ (W ∨ NW T n i hi') := by
        unfold NW
        rw [en]
        rw [show (pk T n i - 48) * 10 = 10 * (pk T n i - 48) by omega]
        exact ⟨fun z => z.elim Or.inl (fun z => z.elim (fun z => z.elim (fun z => absurd rfl z) (fun z => Or.inr (Or.inl z))) (fun z => Or.inr (Or.inr z))), fun z => z.elim Or.inl (fun z => z.elim (fun z => Or.inr (Or.inl (Or.inr z))) (fun z => Or.inr (Or.inr z)))⟩
      refine ⟨h', _, j, (a1.trans (b1.trans z1)), Mn_tr a2 (Mn_tr b2 z2), z3, by omega, by rw [z5, b2i_c ec], fun z => ?_⟩
      have z' := fun y => z (ec.mp y)
      have nf : ¬ isFg (pk T n (i + 2)) := fun y => z' (Or.inr (Or.inl (Or.inr y)))
      rw [en]
      exact ⟨by rw [iteP_f z']; show _ = (pk T n i - 48) * 10 + (pk T n (i + 1) - 48); omega, z6 nf⟩
    · obtain ⟨h', b1, b2, b3, b4⟩ := m_nE x1 a3 w1 r 0 hi' (pk T n i - 48) ((1 : Nat) : Int)
      have en : nmS T n i = (pk T n i - 48, i + 1) := by unfold nmS; rw [iteP_t q, iteP_f r]
      have ec : (W ∨ ¬ (1 ≤ ((1 : Nat) : Int) ∧ ((1 : Nat) : Int) ≤ 2) ∨ ¬ (0 ≤ pk T n i - 48 ∧ pk T n i - 48 ≤ hi')) ↔ (W ∨ NW T n i hi') := by
        unfold NW
        rw [en]
        exact ⟨fun z => z.elim Or.inl (fun z => z.elim (fun z => absurd (by decide) z) (fun z => Or.inr (Or.inr z))), fun z => z.elim Or.inl (fun z => z.elim (fun z => absurd z r) (fun z => Or.inr (Or.inr z)))⟩
      refine ⟨h', _, i + 1, a1.trans b1, Mn_tr a2 b2, b3, by omega, by rw [b4, b2i_c ec], fun z => ?_⟩
      rw [en]
      exact ⟨by rw [iteP_f (fun y => z (ec.mp y))], rfl⟩
  · obtain ⟨h', b1, b2, b3, b4⟩ := m_nE hx hi hw q 0 hi' 0 0
    have en : nmS T n i = (-1, i) := by unfold nmS; rw [iteP_f q]
    have ec : (W ∨ ¬ ((1 : Int) ≤ 0 ∧ (0 : Int) ≤ 2) ∨ ¬ ((0 : Int) ≤ 0 ∧ (0 : Int) ≤ hi')) ↔ (W ∨ NW T n i hi') := by
      unfold NW
      rw [en]
      exact ⟨fun _ => Or.inr (Or.inr (fun z => absurd z.1 (show ¬ (0 : Int) ≤ -1 by decide))), fun _ => Or.inr (Or.inl (by decide))⟩
    refine ⟨h', _, i, b1, b2, b3, Or.inl (Nat.le_refl _), by rw [b4, b2i_c ec], fun z => ?_⟩
    exact absurd (Or.inr (Or.inl (by decide))) (fun y => z (ec.mp y))
end Mp

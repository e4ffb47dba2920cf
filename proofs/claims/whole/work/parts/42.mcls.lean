/-! the class's Machine -/
def MR (L : Nat) (P : Nat → Int) (s : mSt) (h : mH) : Prop := Ly L h ∧ (h.2 22 0 = 11 ∧ h.2 12 = P) ∧ (∀ r, r < 4 → h.2 25 r = sR s r) ∧ (h.2 22 5 = ((sK s).length : Int) ∧ (sK s).length ≤ 16 ∧ ∀ i, i < (sK s).length → h.2 26 ((sK s).length - 1 - i) = (sK s).getD i 0) ∧ (∀ j, j < 3 * sN s → h.2 28 j = sH s j) ∧ (∀ t, t < sN s → h.2 27 t = sO s t) ∧ h.2 22 6 = (sN s : Int) ∧ h.2 22 7 = (sA s : Int) ∧ h.2 22 8 = (sP s : Int)
def MF (h h' : mH) : Prop := h'.1 = h.1 ∧ (∀ a, a ∉ [22, 25, 26, 27, 28] → h'.2 a = h.2 a) ∧ ∀ j, (j < 5 ∨ j = 9 ∨ j = 10) → h'.2 22 j = h.2 22 j
theorem MF_rf (h : mH) : MF h h := ⟨rfl, fun _ _ => rfl, fun _ _ => rfl⟩
theorem MF_tr {h h1 h2 : mH} (a : MF h h1) (b : MF h1 h2) : MF h h2 := ⟨b.1.trans a.1, fun k hk => (b.2.1 k hk).trans (a.2.1 k hk), fun j hj => (b.2.2 j hj).trans (a.2.2 j hj)⟩
theorem MF_mw (h : mH) {a j : Nat} (v : Int) (ha : a = 25 ∨ a = 26 ∨ a = 27 ∨ a = 28) : MF h (mw h a j v) := ⟨rfl, fun k hk => mw_o h j v (fun q => by subst q; simp at hk; omega), fun i _ => by rw [mw_o h j v (by omega)]⟩
theorem MF_22 (h : mH) {j : Nat} (v : Int) (hj : 5 ≤ j ∧ j ≤ 8) : MF h (mw h 22 j v) := ⟨rfl, fun k hk => mw_o h j v (fun q => by subst q; simp at hk), fun i hi => mw_d h v (by omega)⟩
section Mc
variable {L : Nat} {P : Nat → Int} {s : mSt} {h : mH}
theorem MR_reg (hr : MR L P s h) {x : Nat} (v : Int) : MR L P (ru (sR s) x v, sK s, sH s, sO s, sN s, sA s, sP s) (mw h 25 x v) := by
  obtain ⟨hL, ⟨h1, h2⟩, h3, ⟨h4, h5, h6⟩, h7, h8, h9, h10, h11⟩ := hr
  refine ⟨Ly_mw hL rfl, ⟨by rw [mw_o _ _ _ (by decide)]; exact h1, by rw [mw_o _ _ _ (by decide)]; exact h2⟩, fun r hr => ?_, ⟨by rw [mw_o _ _ _ (by decide)]; exact h4, h5, by rw [mw_o _ _ _ (by decide)]; exact h6⟩, by rw [mw_o _ _ _ (by decide)]; exact h7, by rw [mw_o _ _ _ (by decide)]; exact h8, by rw [mw_o _ _ _ (by decide)]; exact h9, by rw [mw_o _ _ _ (by decide)]; exact h10, by rw [mw_o _ _ _ (by decide)]; exact h11⟩
  show (mw h 25 x v).2 25 r = ru (sR s) x v r
  by_cases e : r = x
  · rw [e, mw_s, ru_s]
  · rw [mw_d _ _ e, ru_d _ _ e]; exact h3 r hr
theorem MR_pc (hr : MR L P s h) (p : Nat) : MR L P (sR s, sK s, sH s, sO s, sN s, sA s, p) (mw h 22 8 (p : Int)) := by
  obtain ⟨hL, ⟨h1, h2⟩, h3, ⟨h4, h5, h6⟩, h7, h8, h9, h10, h11⟩ := hr
  exact ⟨Ly_mw hL rfl, ⟨by rw [mw_d _ _ (by decide)]; exact h1, by rw [mw_o _ _ _ (by decide)]; exact h2⟩, by rw [mw_o _ _ _ (by decide)]; exact h3, ⟨by rw [mw_d _ _ (by decide)]; exact h4, h5, by rw [mw_o _ _ _ (by decide)]; exact h6⟩, by rw [mw_o _ _ _ (by decide)]; exact h7, by rw [mw_o _ _ _ (by decide)]; exact h8, by rw [mw_d _ _ (by decide)]; exact h9, by rw [mw_d _ _ (by decide)]; exact h10, mw_s _ _ _ _⟩
theorem MR_at (hr : MR L P s h) (l : Nat) : MR L P (sR s, sK s, sH s, sO s, sN s, l, sP s) (mw h 22 7 (l : Int)) := by
  obtain ⟨hL, ⟨h1, h2⟩, h3, ⟨h4, h5, h6⟩, h7, h8, h9, h10, h11⟩ := hr
  exact ⟨Ly_mw hL rfl, ⟨by rw [mw_d _ _ (by decide)]; exact h1, by rw [mw_o _ _ _ (by decide)]; exact h2⟩, by rw [mw_o _ _ _ (by decide)]; exact h3, ⟨by rw [mw_d _ _ (by decide)]; exact h4, h5, by rw [mw_o _ _ _ (by decide)]; exact h6⟩, by rw [mw_o _ _ _ (by decide)]; exact h7, by rw [mw_o _ _ _ (by decide)]; exact h8, by rw [mw_d _ _ (by decide)]; exact h9, mw_s _ _ _ _, by rw [mw_d _ _ (by decide)]; exact h11⟩
theorem MR_new (hr : MR L P s h) (y : Int) : MR L P (sNew s y) (mw (mw (mw (mw (mw h 27 (sN s) y) 28 (3 * sN s + 0) (-1)) 28 (3 * sN s + 1) (-1)) 28 (3 * sN s + 2) (-1)) 22 6 ((sN s + 1 : Nat) : Int)) := by
  obtain ⟨hL, ⟨h1, h2⟩, h3, ⟨h4, h5, h6⟩, h7, h8, h9, h10, h11⟩ := hr
  have o : ∀ a, a ≠ 22 → a ≠ 27 → a ≠ 28 → (mw (mw (mw (mw (mw h 27 (sN s) y) 28 (3 * sN s + 0) (-1)) 28 (3 * sN s + 1) (-1)) 28 (3 * sN s + 2) (-1)) 22 6 ((sN s + 1 : Nat) : Int)).2 a = h.2 a := fun a a1 a2 a3 => by
    rw [mw_o _ _ _ a1, mw_o _ _ _ a3, mw_o _ _ _ a3, mw_o _ _ _ a3, mw_o _ _ _ a2]
  have o2 : ∀ j, j ≠ 6 → (mw (mw (mw (mw (mw h 27 (sN s) y) 28 (3 * sN s + 0) (-1)) 28 (3 * sN s + 1) (-1)) 28 (3 * sN s + 2) (-1)) 22 6 ((sN s + 1 : Nat) : Int)).2 22 j = h.2 22 j := fun j hj => by
    rw [mw_d _ _ hj, mw_o _ _ _ (by decide), mw_o _ _ _ (by decide), mw_o _ _ _ (by decide), mw_o _ _ _ (by decide)]
  refine ⟨Ly_mw (Ly_mw (Ly_mw (Ly_mw (Ly_mw hL rfl) rfl) rfl) rfl) rfl, ⟨by rw [o2 0 (by decide)]; exact h1, by rw [o 12 (by decide) (by decide) (by decide)]; exact h2⟩, by rw [o 25 (by decide) (by decide) (by decide)]; exact h3, ⟨by rw [o2 5 (by decide)]; exact h4, h5, by rw [o 26 (by decide) (by decide) (by decide)]; exact h6⟩, fun j hj => ?_, fun t ht => ?_, mw_s _ _ _ _, by rw [o2 7 (by decide)]; exact h10, by rw [o2 8 (by decide)]; exact h11⟩
  · have hj' : j < 3 * (sN s + 1) := hj
    rw [mw_o _ _ _ (by decide)]
    show _ = ru (ru (ru (sH s) (3 * sN s) (-1)) (3 * sN s + 1) (-1)) (3 * sN s + 2) (-1) j
    by_cases e2 : j = 3 * sN s + 2
    · rw [e2, mw_s, ru_s]
    · rw [mw_d _ _ e2, ru_d _ _ e2]
      by_cases e1 : j = 3 * sN s + 1
      · rw [e1, mw_s, ru_s]
      · rw [mw_d _ _ e1, ru_d _ _ e1]
        by_cases e0 : j = 3 * sN s
        · rw [e0, ru_s]; exact mw_s _ _ _ _
        · rw [mw_d _ _ (show j ≠ 3 * sN s + 0 by omega), ru_d _ _ e0, mw_o _ _ _ (by decide)]
          exact h7 j (by omega)
  · have ht' : t < sN s + 1 := ht
    rw [mw_o _ _ _ (by decide), mw_o _ _ _ (by decide), mw_o _ _ _ (by decide), mw_o _ _ _ (by decide)]
    show _ = ru (sO s) (sN s) y t
    by_cases e : t = sN s
    · rw [e, mw_s, ru_s]
    · rw [mw_d _ _ e, ru_d _ _ e]
      exact h8 t (by omega)
theorem MR_fd (hr : MR L P s h) {j : Nat} (v : Int) : MR L P (sR s, sK s, ru (sH s) j v, sO s, sN s, sA s, sP s) (mw h 28 j v) := by
  obtain ⟨hL, ⟨h1, h2⟩, h3, ⟨h4, h5, h6⟩, h7, h8, h9, h10, h11⟩ := hr
  refine ⟨Ly_mw hL rfl, ⟨by rw [mw_o _ _ _ (by decide)]; exact h1, by rw [mw_o _ _ _ (by decide)]; exact h2⟩, by rw [mw_o _ _ _ (by decide)]; exact h3, ⟨by rw [mw_o _ _ _ (by decide)]; exact h4, h5, by rw [mw_o _ _ _ (by decide)]; exact h6⟩, fun i hi => ?_, by rw [mw_o _ _ _ (by decide)]; exact h8, by rw [mw_o _ _ _ (by decide)]; exact h9, by rw [mw_o _ _ _ (by decide)]; exact h10, by rw [mw_o _ _ _ (by decide)]; exact h11⟩
  show (mw h 28 j v).2 28 i = ru (sH s) j v i
  by_cases e : i = j
  · rw [e, mw_s, ru_s]
  · rw [mw_d _ _ e, ru_d _ _ e]; exact h7 i hi
theorem MR_so (hr : MR L P s h) {j : Nat} (v : Int) : MR L P (sR s, sK s, sH s, ru (sO s) j v, sN s, sA s, sP s) (mw h 27 j v) := by
  obtain ⟨hL, ⟨h1, h2⟩, h3, ⟨h4, h5, h6⟩, h7, h8, h9, h10, h11⟩ := hr
  refine ⟨Ly_mw hL rfl, ⟨by rw [mw_o _ _ _ (by decide)]; exact h1, by rw [mw_o _ _ _ (by decide)]; exact h2⟩, by rw [mw_o _ _ _ (by decide)]; exact h3, ⟨by rw [mw_o _ _ _ (by decide)]; exact h4, h5, by rw [mw_o _ _ _ (by decide)]; exact h6⟩, by rw [mw_o _ _ _ (by decide)]; exact h7, fun i hi => ?_, by rw [mw_o _ _ _ (by decide)]; exact h9, by rw [mw_o _ _ _ (by decide)]; exact h10, by rw [mw_o _ _ _ (by decide)]; exact h11⟩
  show (mw h 27 j v).2 27 i = ru (sO s) j v i
  by_cases e : i = j
  · rw [e, mw_s, ru_s]
  · rw [mw_d _ _ e, ru_d _ _ e]; exact h8 i hi
theorem MR_push (hr : MR L P s h) (v : Int) (hk : (sK s).length < 16) : MR L P (sR s, v :: sK s, sH s, sO s, sN s, sA s, sP s) (mw (mw h 26 (sK s).length v) 22 5 (((sK s).length + 1 : Nat) : Int)) := by
  obtain ⟨hL, ⟨h1, h2⟩, h3, ⟨h4, h5, h6⟩, h7, h8, h9, h10, h11⟩ := hr
  refine ⟨Ly_mw (Ly_mw hL rfl) rfl, ⟨by rw [mw_d _ _ (by decide), mw_o _ _ _ (by decide)]; exact h1, by rw [mw_o _ _ _ (by decide), mw_o _ _ _ (by decide)]; exact h2⟩, by rw [mw_o _ _ _ (by decide), mw_o _ _ _ (by decide)]; exact h3, ⟨mw_s _ _ _ _, by show (v :: sK s).length ≤ 16; simp; omega, fun i hi => ?_⟩, by rw [mw_o _ _ _ (by decide), mw_o _ _ _ (by decide)]; exact h7, by rw [mw_o _ _ _ (by decide), mw_o _ _ _ (by decide)]; exact h8, by rw [mw_d _ _ (by decide), mw_o _ _ _ (by decide)]; exact h9, by rw [mw_d _ _ (by decide), mw_o _ _ _ (by decide)]; exact h10, by rw [mw_d _ _ (by decide), mw_o _ _ _ (by decide)]; exact h11⟩
  show (mw (mw h 26 (sK s).length v) 22 5 (((sK s).length + 1 : Nat) : Int)).2 26 ((v :: sK s).length - 1 - i) = (v :: sK s).getD i 0
  rw [mw_o _ _ _ (by decide), List.length_cons]
  have hi' : i < (sK s).length + 1 := hi
  rcases i with _ | i
  · rw [show (sK s).length + 1 - 1 - 0 = (sK s).length by omega, mw_s]
    rfl
  · rw [mw_d _ _ (by omega), show (sK s).length + 1 - 1 - (i + 1) = (sK s).length - 1 - i by omega, h6 i (by omega)]
    rfl
theorem MR_pop (hr : MR L P s h) {v : Int} {r : List Int} (hk : sK s = v :: r) : MR L P (sR s, r, sH s, sO s, sN s, sA s, sP s) (mw h 22 5 (r.length : Int)) ∧ h.2 26 r.length = v := by
  obtain ⟨hL, ⟨h1, h2⟩, h3, ⟨h4, h5, h6⟩, h7, h8, h9, h10, h11⟩ := hr
  rw [hk, List.length_cons] at h5 h6
  refine ⟨⟨Ly_mw hL rfl, ⟨by rw [mw_d _ _ (by decide)]; exact h1, by rw [mw_o _ _ _ (by decide)]; exact h2⟩, by rw [mw_o _ _ _ (by decide)]; exact h3, ⟨mw_s _ _ _ _, by show r.length ≤ 16; omega, fun i hi => ?_⟩, by rw [mw_o _ _ _ (by decide)]; exact h7, by rw [mw_o _ _ _ (by decide)]; exact h8, by rw [mw_d _ _ (by decide)]; exact h9, by rw [mw_d _ _ (by decide)]; exact h10, by rw [mw_d _ _ (by decide)]; exact h11⟩, ?_⟩
  · show (mw h 22 5 (r.length : Int)).2 26 (r.length - 1 - i) = r.getD i 0
    have hi' : i < r.length := hi
    have := h6 (i + 1) (by omega)
    rw [mw_o _ _ _ (by decide), show r.length - 1 - i = r.length + 1 - 1 - (i + 1) by omega, this]
    rfl
  · have := h6 0 (by omega)
    rw [show r.length + 1 - 1 - 0 = r.length by omega] at this
    rw [this]
    rfl
theorem c_behind (hr : MR L P s h) (hp : sP s < 1000) : ∃ h', F_Mc_goOnBehind 22 h = some (0, h') ∧ MR L P (sNx s) h' ∧ MF h h' := by
  have e := w32_nn (sP s) hp
  refine ⟨mw h 22 8 ((sP s + 1 : Nat) : Int), ?_, MR_pc hr (sP s + 1), MF_22 h _ (by decide)⟩
  rw [q_Mc_goOnBehind _ _ (o_22 hr.1), g_22 hr.1 (by decide), Option.bind_some, hr.2.2.2.2.2.2.2.2, e, f_22 hr.1 (by decide), Option.bind_some]
theorem c_with (hr : MR L P s h) (hp : sP s < 1000) {d : Nat} (hd : d < 4) (v : Int) : ∃ h', F_Mc_goOnWith 22 (d : Int) v h = some (0, h') ∧ MR L P (sSet s d v) h' ∧ MF h h' := by
  have t25 : (25 : Int).toNat = 25 := rfl
  have k1 : ¬ (d : Int) < 0 := by omega
  have k2 : ¬ 4 ≤ (d : Int) := by omega
  have k3 : (0 : Int) ≤ (d : Int) := by omega
  have k4 : (d : Int) < 4 := by omega
  obtain ⟨h', a1, a2, a3⟩ := c_behind (MR_reg hr (x := d) v) hp
  refine ⟨h', ?_, a2, MF_tr (MF_mw h v (Or.inl rfl)) a3⟩
  rw [q_Mc_goOnWith _ _ _ _ (o_22 hr.1), if_neg k1, if_neg k2, p_22_1 hr.1, Option.bind_some, t25, w_25 hr.1 k3 k4, Option.bind_some, tn, q_Mc_goOnWith_16, a1, Option.bind_some]
theorem c_goTo (hr : MR L P s h) (l : Nat) : ∃ h', F_Mc_goTo 22 (l : Int) h = some h' ∧ MR L P (sGo s l) h' ∧ MF h h' := by
  refine ⟨mw (mw h 22 7 (l : Int)) 22 8 ((0 : Nat) : Int), ?_, MR_pc (MR_at hr l) 0, MF_tr (MF_22 h _ (by decide)) (MF_22 _ _ (by decide))⟩
  rw [q_Mc_goTo _ _ _ (o_22 hr.1), f_22 hr.1 (by decide), Option.bind_some, f_22 (MR_at hr l).1 (by decide), Option.bind_some]
  rfl
theorem c_goOnAt (hr : MR L P s h) (l : Nat) : ∃ h', F_Mc_goOnAt 22 (l : Int) h = some (0, h') ∧ MR L P (sGo s l) h' ∧ MF h h' := by
  obtain ⟨h', a1, a2, a3⟩ := c_goTo hr l
  exact ⟨h', by rw [q_Mc_goOnAt _ _ _ (o_22 hr.1), a1, Option.bind_some], a2, a3⟩
theorem c_mreg (hr : MR L P s h) {r : Nat} (h4 : r < 4) : F_Mc_register 22 (r : Int) h = some (sR s r, h) := by
  have t25 : (25 : Int).toNat = 25 := rfl
  rw [q_Mc_register _ _ _ (o_22 hr.1), if_neg (by omega), if_neg (by omega), p_22_1 hr.1, Option.bind_some, t25, r_25 hr.1 (by omega) (by omega), Option.bind_some, tn, hr.2.2.1 r h4]
theorem c_isW (v : Int) (h : mH) : F_Mc_isWord v h = some (b2i (isW v), h) := by
  rw [q_Mc_isWord]
  by_cases h1 : v < 0
  · rw [if_pos h1, b2i_f (by unfold isW; omega)]
  · rw [if_neg h1]
    by_cases h2 : 10000 ≤ v
    · rw [if_pos h2, b2i_f (by unfold isW; omega)]
    · rw [if_neg h2, b2i_t (by unfold isW; omega)]
theorem c_isB (v : Int) (h : mH) : F_Mc_isLabel v h = some (b2i (isB v), h) := by
  rw [q_Mc_isLabel]
  by_cases h1 : v < 10000
  · rw [if_pos h1, b2i_f (by unfold isB; omega)]
  · rw [if_neg h1]
    by_cases h2 : 20000 ≤ v
    · rw [if_pos h2, b2i_f (by unfold isB; omega)]
    · rw [if_neg h2, b2i_t (by unfold isB; omega)]
theorem c_sum (hr : MR L P s h) (hp : sP s < 1000) {x y : Nat} (hx : x < 4) (hy : y < 4) : ∃ h', F_Mc_sum 22 (x : Int) (y : Int) h = some ((iteP (isW (sR s x) ∧ isW (sR s y)) (0, sSet s x ((sR s x + sR s y) % 10000)) (2, s)).1, h') ∧ MR L P (iteP (isW (sR s x) ∧ isW (sR s y)) ((0 : Int), sSet s x ((sR s x + sR s y) % 10000)) (2, s)).2 h' ∧ MF h h' := by
  rw [q_Mc_sum _ _ _ _ (o_22 hr.1), c_mreg hr hx, Option.bind_some]
  dsimp only
  rw [c_isW, Option.bind_some]
  dsimp only
  by_cases q1 : isW (sR s x)
  · rw [b2i_t q1, if_neg (by decide), c_mreg hr hy, Option.bind_some]
    dsimp only
    rw [c_isW, Option.bind_some]
    dsimp only
    by_cases q2 : isW (sR s y)
    · have e : Int.tmod (w32 (sR s x + sR s y)) 10000 = (sR s x + sR s y) % 10000 := by
        unfold isW at q1 q2
        obtain ⟨m, hm⟩ := n_of (show 0 ≤ sR s x + sR s y by omega)
        rw [hm]
        have : w32 (m : Int) = m := by unfold w32; omega
        rw [this]
        exact (Int.ofNat_tmod m 10000).symm
      obtain ⟨h', a1, a2, a3⟩ := c_with hr hp hx ((sR s x + sR s y) % 10000)
      rw [iteP_t ⟨q1, q2⟩]
      refine ⟨h', ?_, a2, a3⟩
      rw [b2i_t q2, if_pos (by decide), c_mreg hr hx, Option.bind_some]
      dsimp only
      rw [c_mreg hr hy, Option.bind_some]
      dsimp only
      rw [e, a1, Option.bind_some]
    · rw [b2i_f q2, if_neg (by decide), iteP_f (fun z => q2 z.2)]
      exact ⟨h, rfl, hr, MF_rf h⟩
  · rw [b2i_f q1, if_pos rfl, iteP_f (fun z => q1 z.1)]
    exact ⟨h, rfl, hr, MF_rf h⟩
theorem c_mpush (hr : MR L P s h) (v : Int) : ∃ h', F_Mc_push 22 v h = some (b2i ((sK s).length < 16), h') ∧ iteP ((sK s).length < 16) (MR L P (sR s, v :: sK s, sH s, sO s, sN s, sA s, sP s) h') (h' = h) ∧ MF h h' := by
  have t26 : (26 : Int).toNat = 26 := rfl
  have h5 := hr.2.2.2.1.1
  have k0 : ¬ ((sK s).length : Int) < 0 := by omega
  have k9 : (0 : Int) ≤ ((sK s).length : Int) := by omega
  rw [q_Mc_push _ _ _ (o_22 hr.1), g_22 hr.1 (by decide), Option.bind_some, h5, if_neg k0, Option.bind_some]
  by_cases q : (sK s).length < 16
  · have k1 : ((sK s).length : Int) < 16 := by omega
    have L1 : Ly L (mw h 26 (sK s).length v) := Ly_mw hr.1 rfl
    have e := w32_nn (sK s).length (by omega)
    refine ⟨mw (mw h 26 (sK s).length v) 22 5 (((sK s).length + 1 : Nat) : Int), ?_, ?_, MF_tr (MF_mw h v (by decide)) (MF_22 _ _ (by decide))⟩
    · rw [if_pos k1, p_22_2 hr.1, Option.bind_some, Option.bind_some, t26, w_26 hr.1 k9 k1, Option.bind_some, tn, g_22 L1 (by decide), Option.bind_some, mw_o _ _ _ (by decide), h5, e, f_22 L1 (by decide), Option.bind_some, b2i_t q]
    · rw [iteP_t q]; exact MR_push hr v q
  · refine ⟨h, ?_, by rw [iteP_f q], MF_rf h⟩
    rw [if_neg (by omega), b2i_f q]
theorem c_mpop (hr : MR L P s h) (hp : sP s < 1000) {x : Nat} (hx : x < 4) : ∃ h', F_Mc_pop 22 (x : Int) h = some ((iteP (sK s = []) ((2 : Int), s) (0, sSet (sR s, (sK s).tail, sH s, sO s, sN s, sA s, sP s) x ((sK s).headD 0))).1, h') ∧ MR L P (iteP (sK s = []) ((2 : Int), s) (0, sSet (sR s, (sK s).tail, sH s, sO s, sN s, sA s, sP s) x ((sK s).headD 0))).2 h' ∧ MF h h' := by
  have t26 : (26 : Int).toNat = 26 := rfl
  have h5 := hr.2.2.2.1.1
  have h16 := hr.2.2.2.1.2.1
  rw [q_Mc_pop _ _ _ (o_22 hr.1), g_22 hr.1 (by decide), Option.bind_some, h5]
  by_cases q : sK s = []
  · rw [iteP_t q]
    refine ⟨h, ?_, hr, MF_rf h⟩
    rw [q]
    rw [if_pos (by decide)]
  · rw [iteP_f q]
    obtain ⟨v, r, hk⟩ : ∃ v r, sK s = v :: r := by
      cases hk : sK s with
      | nil => exact absurd hk q
      | cons v r => exact ⟨v, r, rfl⟩
    obtain ⟨m1, m2⟩ := MR_pop hr hk
    rw [hk, List.length_cons] at h16
    have k0 : ¬ (r.length : Int) < 0 := by omega
    have k1 : (r.length : Int) < 16 := by omega
    have k2 : (0 : Int) ≤ (r.length : Int) := by omega
    have k3 : r.length < 1000 := by omega
    have e := w32_pp r.length k3
    obtain ⟨h', a1, a2, a3⟩ := c_with m1 hp hx v
    refine ⟨h', ?_, ?_, MF_tr (MF_22 h _ (by decide)) a3⟩
    · rw [hk, List.length_cons, e, if_neg k0, if_pos k1, f_22 hr.1 (by decide), Option.bind_some, p_22_2 m1.1, Option.bind_some, t26, r_26 m1.1 k2 k1, Option.bind_some, tn, mw_o _ _ _ (by decide), m2, a1, Option.bind_some]
    · rw [hk]; exact a2
end Mc

/-! THE MODEL: a block begins; tuples -/
section Mk
variable {L b : Nat} {Q rg : Nat → Int} {sk : List Int} {op : Int} {h : mH}
theorem MkR_reg {x : Nat} (v : Int) (hr : MkR h rg sk op) : MkR (mw h 55 x v) (ru rg x v) sk op := by
  obtain ⟨r1, r2, r3, r4, r5⟩ := hr
  refine ⟨fun r h4 => ?_, by rw [mw_o _ _ _ (by decide)]; exact r2, r3, fun i hi => by rw [mw_o _ _ _ (by decide)]; exact r4 i hi, by rw [mw_o _ _ _ (by decide)]; exact r5⟩
  rw [mw_at]
  unfold ru
  split
  · rfl
  · exact r1 r h4
theorem MkR_push (v : Int) (hr : MkR h rg sk op) (h6 : sk.length < 6) : MkR (mw (mw h 56 sk.length v) 43 24 ((sk.length + 1 : Nat) : Int)) rg (v :: sk) op := by
  obtain ⟨r1, r2, r3, r4, r5⟩ := hr
  refine ⟨fun r h4 => ?_, ?_, by simp; omega, fun i hi => ?_, ?_⟩
  · rw [mw_o _ _ _ (by decide), mw_o _ _ _ (by decide)]; exact r1 r h4
  · rw [mw_s]; simp
  · rw [mw_o _ _ _ (by decide), mw_at]
    match i with
    | 0 => simp
    | i + 1 =>
      simp only [List.length_cons] at hi ⊢
      rw [if_neg (by omega)]
      have e : sk.length + 1 - 1 - (i + 1) = sk.length - 1 - i := by omega
      rw [e, r4 i (by omega)]
      simp
  · rw [mw_d _ _ (by decide), mw_o _ _ _ (by decide)]; exact r5
theorem MkR_pop {v : Int} {r : List Int} (hr : MkR h rg (v :: r) op) : MkR (mw h 43 24 (r.length : Int)) rg r op ∧ h.2 56 r.length = v := by
  obtain ⟨r1, r2, r3, r4, r5⟩ := hr
  refine ⟨⟨fun k h4 => by rw [mw_o _ _ _ (by decide)]; exact r1 k h4, mw_s _ _ _ _, by simp at r3; omega, fun i hi => ?_, by rw [mw_d _ _ (by decide)]; exact r5⟩, ?_⟩
  · rw [mw_o _ _ _ (by decide)]
    have := r4 (i + 1) (by simp; omega)
    simp only [List.length_cons] at this
    rw [show r.length + 1 - 1 - (i + 1) = r.length - 1 - i by omega] at this
    rw [this]
    simp
  · have := r4 0 (by simp)
    simp only [List.length_cons] at this
    rw [show r.length + 1 - 1 - 0 = r.length by omega] at this
    rw [this]
    simp
theorem MkR_oth {j : Nat} (v : Int) (hj : j ≠ 24) (hj2 : j ≠ 25) (hr : MkR h rg sk op) : MkR (mw h 43 j v) rg sk op := by
  obtain ⟨r1, r2, r3, r4, r5⟩ := hr
  exact ⟨fun k h4 => by rw [mw_o _ _ _ (by decide)]; exact r1 k h4, by rw [mw_d _ _ (Ne.symm hj)]; exact r2, r3, fun i hi => by rw [mw_o _ _ _ (by decide)]; exact r4 i hi, by rw [mw_d _ _ (Ne.symm hj2)]; exact r5⟩
theorem m_st44 (hv : Val Q) {l : Nat} (hl : (l : Int) < pL Q) : ∀ (m i : Nat) (h : mH), ((i + m : Nat) : Int) = pH Q l → MK L b Q h → (∀ r, r < 4 → h.2 55 r = pW Q l r) → h.2 43 24 = pH Q l → (∀ j, j < i → h.2 56 ((pH Q l).toNat - 1 - j) = pT Q l j) → ∃ h', B_Md_stands_44 43 (b : Int) (l : Int) (i : Int) h = some h' ∧ Ms h h' ∧ MkR h' (pW Q l) (skF Q l 0) (pO Q l)
  | 0, i, h, e, hk, h5, h4, h6 => by
    obtain ⟨hL, hS, hs, hb⟩ := id hk
    have v2 := hv.2.1
    have l4 : l < 4 := by omega
    have v3 := hv.2.2.1 l l4
    have vo := (hv.2.2.2.2 l hl).2.2.2.1
    have ge : pH Q l ≤ (i : Int) := by omega
    have p1 : b + 30 * l + 4 < 1440 := by omega
    have c1 := (hs l l4).2.1
    have e1 : w32 ((w32 ((b : Int) + (w32 (30 * (l : Int))))) + 4) = ((b + 30 * l + 4 : Nat) : Int) := ix3 (c := 4) hb l4 (by decide)
    refine ⟨mw h 43 25 (pO Q l), ?_, Ms_43 h _ (by decide) (by decide), ?_⟩
    · rw [q_Md_stands_44, g_43 hL (by decide), Option.bind_some, h4, if_pos ge, p_43_14 hL, Option.bind_some, e1, ld53 hL p1, Option.bind_some, c1]
      by_cases q : pO Q l = 1
      · rw [if_neg (Decidable.not_not.mpr q), q_Md_stands_104, q]
        rw [show (bz 1).bind (fun _ => pfd 6 25 h 43 1) = pfd 6 25 h 43 1 from rfl, f_43 hL (by decide), Option.bind_some]
      · have q0 : pO Q l = 0 := vo.resolve_right q
        rw [if_pos q, q_Md_stands_104, q0]
        rw [show (bz 0).bind (fun _ => pfd 6 25 h 43 0) = pfd 6 25 h 43 0 from rfl, f_43 hL (by decide), Option.bind_some]
    · clear e1
      have hlen := skF_len Q l 0
      refine ⟨fun r hr => by rw [mw_o _ _ _ (by decide)]; exact h5 r hr, by rw [mw_d _ _ (by decide), h4, hlen]; omega, by omega, fun j hj => ?_, mw_s _ _ _ _⟩
      rw [mw_o _ _ _ (by decide), hlen, skF_get (by omega), Nat.sub_zero]
      exact h6 j (by omega)
  | m + 1, i, h, e, hk, h5, h4, h6 => by
    obtain ⟨hL, hS, hs, hb⟩ := id hk
    have v2 := hv.2.1
    have l4 : l < 4 := by omega
    have v3 := hv.2.2.1 l l4
    have ge : ¬ pH Q l ≤ (i : Int) := by omega
    obtain ⟨N, hN⟩ : ∃ N : Nat, pH Q l = (N : Int) := ⟨(pH Q l).toNat, by omega⟩
    have tN : (pH Q l).toNat = N := by rw [hN, tn]
    have iN : i < N := by omega
    have i3 : i < 3 := by omega
    have ii : i < 1000 := by omega
    have N100 : N < 100 := by omega
    have p1 : 3 * l + i < 12 := by omega
    have p2 : N - 1 - i < 8 := by omega
    have c1 := (hS.2.2.2 l hl).2 i (by omega)
    have f := Ms_56 h (N - 1 - i) (pT Q l i)
    obtain ⟨h', z1, z2, z3⟩ := m_st44 hv hl m (i + 1) (mw h 56 (N - 1 - i) (pT Q l i)) (by omega) (Ms_K f hk) (fun r hr => by rw [mw_o _ _ _ (by decide)]; exact h5 r hr) (by rw [mw_o _ _ _ (by decide)]; exact h4) (fun j hj => by
      rw [mw_at, tN]
      by_cases q : j = i
      · rw [q, if_pos rfl]
      · rw [if_neg (by omega)]
        have := h6 j (by omega)
        rw [tN] at this
        exact this)
    refine ⟨h', ?_, Ms_tr f z2, z3⟩
    rw [q_Md_stands_44, g_43 hL (by decide), Option.bind_some, h4, if_neg ge, p_43_23 hL, Option.bind_some, Option.bind_some, p_43_5 hL, Option.bind_some, ix5 l4 i3, ld47 hL p1, Option.bind_some, c1, hN, ix6 iN N100, st56 hL p2, Option.bind_some, w32_nn i ii, z1]
theorem m_st2 (hv : Val Q) {l : Nat} (hl : (l : Int) < pL Q) : ∀ (m r : Nat) (h : mH), r + m = 4 → MK L b Q h → (∀ k, k < r → h.2 55 k = pW Q l k) → ∃ h', B_Md_stands_2 43 (b : Int) (l : Int) (r : Int) h = some h' ∧ Ms h h' ∧ MkR h' (pW Q l) (skF Q l 0) (pO Q l)
  | 0, r, h, e, hk, h5 => by
    have : r = 4 := by omega
    subst this
    obtain ⟨hL, hS, hs, hb⟩ := id hk
    have v2 := hv.2.1
    have l4 : l < 4 := by omega
    have v3 := hv.2.2.1 l l4
    have f := Ms_43 h (j := 24) (pH Q l) (by decide) (by decide)
    obtain ⟨h', z1, z2, z3⟩ := m_st44 hv hl (pH Q l).toNat 0 (mw h 43 24 (pH Q l)) (by omega) (Ms_K f hk) (fun k hk' => by rw [mw_o _ _ _ (by decide)]; exact h5 k hk') (mw_s _ _ _ _) (fun j hj => by omega)
    rw [show ((0 : Nat) : Int) = 0 from rfl] at z1
    refine ⟨h', ?_, Ms_tr f z2, z3⟩
    rw [q_Md_stands_2, if_pos (by decide), p_43_4 hL, Option.bind_some, ld46 hL l4, Option.bind_some, (hS.2.2.2 l hl).1, f_43 hL (by decide), Option.bind_some, z1]
  | m + 1, r, h, e, hk, h5 => by
    obtain ⟨hL, hS, hs, hb⟩ := id hk
    have v2 := hv.2.1
    have l4 : l < 4 := by omega
    have ge : ¬ 4 ≤ (r : Int) := by omega
    have r4 : r < 4 := by omega
    have r30 : r < 30 := by omega
    have rr : r < 1000 := by omega
    have p1 : b + 30 * l + r < 1440 := by omega
    have c1 := (hs l l4).1 r r4
    have f := Ms_55 h r (pW Q l r)
    obtain ⟨h', z1, z2, z3⟩ := m_st2 hv hl m (r + 1) (mw h 55 r (pW Q l r)) (by omega) (Ms_K f hk) (fun k hk' => by
      rw [mw_at]
      split
      · rename_i q; rw [q]
      · exact h5 k (by omega))
    refine ⟨h', ?_, Ms_tr f z2, z3⟩
    rw [q_Md_stands_2, if_neg ge, p_43_22 hL, Option.bind_some, p_43_14 hL, Option.bind_some, ix3 hb l4 r30, ld53 hL p1, Option.bind_some, c1, st55 hL r4, Option.bind_some, w32_nn r rr, z1]
theorem m_stands (hk : MK L b Q h) (hv : Val Q) {l : Nat} (hl : (l : Int) < pL Q) : ∃ h', F_Md_stands 43 (b : Int) (l : Int) h = some h' ∧ Ms h h' ∧ MkR h' (pW Q l) (skF Q l 0) (pO Q l) := by
  obtain ⟨h', z1, z2, z3⟩ := m_st2 hv hl 4 0 h (by decide) hk (fun k hk' => by omega)
  rw [show ((0 : Nat) : Int) = 0 from rfl] at z1
  exact ⟨h', by rw [q_Md_stands _ _ _ _ (o_43 hk.1), z1], z2, z3⟩
theorem m_isTuple (x : Int) (h : mH) : F_Md_isTuple x h = some (b2i (tupT x), h) := by
  rw [q_Md_isTuple, c_in, Option.bind_some]
  dsimp only
  by_cases q : 2 ≤ x ∧ x ≤ 5
  · rw [b2i_t q, if_pos (by decide), q_Md_isTuple_20, b2i_t (p := tupT x) (Or.inl ⟨q.1, by omega⟩)]
  · rw [b2i_f q, if_neg (by decide)]
    by_cases w : x ≤ 9
    · rw [if_pos w, b2i_f (p := tupT x) (by unfold tupT; omega)]
    · rw [if_neg w, q_Md_isTuple_20, b2i_t (p := tupT x) (Or.inr (by omega))]
theorem tyV_c {x : Int} (hv : Val Q) (hx : tyV Q x) : 0 ≤ x ∧ x < 100 := by
  have v1 := hv.1
  have v2 := hv.2.1
  rcases hx with q | ⟨t, s, e, h1, h2⟩
  · unfold tyOk at q; omega
  · omega
theorem m_sortOf {x : Int} (hx : 0 ≤ x ∧ x < 100) (h : mH) : F_Md_sortOf x h = some (sortS x, h) := by
  rw [q_Md_sortOf]
  unfold sortS
  by_cases q : x ≤ 9
  · rw [if_pos q, if_pos (by omega), w32_id (by omega) (by omega)]
  · have e : w32 (x - 10) = x - 10 := w32_id (by omega) (by omega)
    obtain ⟨m, hm⟩ := n_of (show 0 ≤ x - 10 by clear e; omega)
    have hb : m < 100 := by clear e; omega
    rw [if_neg q, if_neg (by clear e; omega), e, hm, w32_id]
    · clear e; rw [Int.tdiv_eq_ediv_of_nonneg (by omega)]; omega
    · clear e; rw [Int.tdiv_eq_ediv_of_nonneg (by omega)]; omega
theorem m_setOf (hL : LyM L h) (hS : Sta Q h) (hv : Val Q) {x : Int} (hx : tyV Q x) (ht : tupT x) : F_Md_setOf 43 x h = some (setS Q x, h) := by
  have hb := tyV_c hv hx
  have v1 := hv.1
  rw [q_Md_setOf _ _ _ (o_43 hL)]
  unfold setS
  by_cases q : x ≤ 9
  · obtain ⟨t, e1, e2, e3⟩ := sortS_lt hv hx ht
    have e4 : x - 2 = (t : Int) := by unfold sortS at e1; rw [if_pos (by omega)] at e1; exact e1
    have e5 : w32 (x - 2) = (t : Int) := by rw [e4]; exact w32_id (by omega) (by omega)
    rw [if_pos q, if_pos (by clear e5; omega), p_43_1 hL, Option.bind_some, e5, ld44 hL e3, Option.bind_some, (hS.2.2.1 t e2).1, e4, tn]
    rfl
  · rw [if_neg q, if_neg (by omega), w32_id (by omega) (by omega)]
theorem m_moves (hL : LyM L h) {x : Nat} (hx : x < 4) (v : Int) : F_Md_moves 43 (x : Int) v h = some (0, mw h 55 x v) := by
  rw [q_Md_moves _ _ _ _ (o_43 hL), p_43_22 hL, Option.bind_some, st55 hL hx, Option.bind_some]
theorem m_has {s f : Int} (h : mH) (hs : s = s) : F_Md_has s f h = some (b2i (iand (ishr s f) 1 = 1), h) := by
  rw [q_Md_has]
  by_cases q : iand (ishr s f) 1 = 1
  · rw [if_neg (Decidable.not_not.mpr q), b2i_t q]
  · rw [if_pos q, b2i_f q]
end Mk

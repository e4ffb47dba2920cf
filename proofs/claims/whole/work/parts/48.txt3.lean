/-! THE TEXT: a label, an instruction -/
def tld (Q : Nat → Int) (v : Int) : Prop := 0 ≤ v ∧ v < 10 ∧ (v < 2 ∨ 6 ≤ v ∨ v - 2 < pS Q)
noncomputable def lbR (T : Nat → Int) (n l : Nat) : Nat → Nat → Nat → (Nat → Int) → Option (Nat × (Nat → Int))
  | 0, _, i, Q => some (i, Q)
  | m + 1, r, i, Q => iteP (tld Q (fgS T n i).1) (lbR T n l m (r + 1) (fgS T n i).2 (ru Q (18 + 34 * l + r) (fgS T n i).1)) none
def addB (Q : Nat → Int) (l : Nat) (v : Int) : Nat → Int := ru (ru Q (23 + 34 * l + (pH Q l).toNat) v) (22 + 34 * l) (pH Q l + 1)
noncomputable def lbK (T : Nat → Int) (n l : Nat) : Nat → Nat → (Nat → Int) → Option (Nat × (Nat → Int))
  | 0, i, Q => some (i, Q)
  | m + 1, i, Q => iteP (isFg (pk T n i)) (iteP (tld Q (pk T n i - 48)) (lbK T n l m (i + 1) (addB Q l (pk T n i - 48))) none) (some (i, Q))
noncomputable def lbE2 (T : Nat → Int) (n l : Nat) : Option (Nat × (Nat → Int)) → Option (Nat × (Nat → Int))
  | none => none
  | some (k, S) => iteP (pk T n k = 44 ∧ (0 ≤ (nmS T n (k + 1)).1 ∧ (nmS T n (k + 1)).1 ≤ 1) ∧ pk T n (nmS T n (k + 1)).2 = 59) (some ((nmS T n (k + 1)).2 + 1, ru (ru S (26 + 34 * l) (nmS T n (k + 1)).1) 1 (pL S + 1))) none
noncomputable def lbE1 (T : Nat → Int) (n l : Nat) : Option (Nat × (Nat → Int)) → Option (Nat × (Nat → Int))
  | none => none
  | some (j, R) => iteP (pk T n j = 44) (lbE2 T n l (lbK T n l 3 (j + 1) R)) none
noncomputable def labI (T : Nat → Int) (n i : Nat) (Q : Nat → Int) : Option (Nat × (Nat → Int)) := iteP (pL Q < 4) (lbE1 T n (pL Q).toNat (lbR T n (pL Q).toNat 4 0 i Q)) none
section Tx
variable {L n i : Nat} {T Q : Nat → Int} {h : mH}
theorem c_isTold (ht : TI L n T i Q h) (v : Int) : F_Tx_isTold 7 v h = some (b2i (tld Q v), h) := by
  have hQ : h.2 (8 + 1) = Q := ht.2.2.2.1
  rw [q_Tx_isTold _ _ _ (o_7 ht.1)]
  by_cases h1 : v < 0
  · rw [if_pos h1, b2i_f (by unfold tld; omega)]
  · rw [if_neg h1]
    by_cases h2 : v < 10
    · rw [if_pos h2]
      by_cases h3 : v < 2
      · rw [if_pos h3, q_Tx_isTold_36, b2i_t (by unfold tld; omega)]
      · rw [if_neg h3]
        by_cases h4 : 6 ≤ v
        · rw [if_pos h4, q_Tx_isTold_36, b2i_t (by unfold tld; omega)]
        · have e : w32 (v - 2) = v - 2 := w32_id (by omega) (by omega)
          rw [if_neg h4, p_7_0 ht.1, Option.bind_some, t8, e, c_hasSort (TI_pg ht), Option.bind_some, hQ]
          clear e
          dsimp only
          by_cases h5 : 0 ≤ v - 2 ∧ v - 2 < pS Q
          · rw [if_pos h5, if_neg (by decide), q_Tx_isTold_36, b2i_t (by unfold tld; omega)]
          · rw [if_neg h5, if_pos rfl, b2i_f (by unfold tld; omega)]
    · rw [if_neg h2, b2i_f (by unfold tld; omega)]
theorem c_addBelow (ht : TI L n T i Q h) {l m : Nat} (h4 : l < 4) (hm : pH Q l = m) (h3 : m < 3) (v : Int) : F_Pg_addWantedBelow 8 (l : Int) v h = some (mrow h 9 (addB Q l v)) := by
  have hg := TI_pg ht
  have hQ : h.2 (8 + 1) = Q := ht.2.2.2.1
  have e0 : w32 (5 + (m : Int)) = 5 + (m : Int) := w32_id (by omega) (by omega)
  have e1 : (18 + 34 * (l : Int) + (5 + (m : Int))).toNat = 23 + 34 * l + m := by clear e0; omega
  have e2 : (18 + 34 * (l : Int) + 4).toNat = 22 + 34 * l := by clear e0; omega
  have k1 : (0 : Int) ≤ (l : Int) := by clear e0; omega
  have k2 : (l : Int) < 4 := by clear e0; omega
  have k3 : (0 : Int) ≤ 5 + (m : Int) := by clear e0; omega
  have k4 : 5 + (m : Int) < 34 := by clear e0; omega
  have km : m < 1000 := by clear e0; omega
  rw [q_Pg_addWantedBelow _ _ _ _ hg.1, c_wantedHeight hg h4, Option.bind_some, hQ, hm]
  dsimp only
  rw [e0, c_setLabelCell hg k1 k2 k3 k4, Option.bind_some, e1, hQ, w32_nn m km, c_setLabelCell (PgO_s hg _) k1 k2 (by decide) (by decide), Option.bind_some, e2, mrow_m, mrow_s]
  unfold addB
  rw [hm, tn]
  rfl
theorem Zr_addB (hz : Zr Q) {l m : Nat} (h4 : l < 4) (hm : pH Q l = m) (h3 : m < 3) (v : Int) : Zr (addB Q l v) := by
  unfold addB
  rw [hm, tn]
  exact Zr_ru (Zr_ru hz _ (by omega)) _ (by omega)
theorem addB_n {l : Nat} {v : Int} : pH (addB Q l v) l = pH Q l + 1 := by
  unfold pH addB
  rw [ru_s]
  rfl
theorem addB_o {l a : Nat} {v : Int} (ha : a < 18) : addB Q l v a = Q a := by
  unfold addB
  rw [ru_d _ _ (by omega), ru_d _ _ (by omega)]
theorem c_lb17 {l : Nat} (h4 : l < 4) : ∀ (m r i : Nat) (Q : Nat → Int) (o : Option mV) (h : mH), r + m = 4 → TI L n T i Q h →
    ∃ h', TX h h' ∧ ((lbR T n l m r i Q = none ∧ B_Tx_readLabel_17 7 (l : Int) (r : Int) o h = some (0, h')) ∨ ∃ j R o', lbR T n l m r i Q = some (j, R) ∧ B_Tx_readLabel_17 7 (l : Int) (r : Int) o h = B_Tx_readLabel_17 7 (l : Int) 4 o' h' ∧ TI L n T j R h' ∧ (∀ a, a < 18 → R a = Q a) ∧ pH R l = pH Q l)
  | 0, r, i, Q, o, h, e, ht => by
    have : r = 4 := by omega
    subst this
    exact ⟨h, TX_rf h, Or.inr ⟨i, Q, o, rfl, rfl, ht, fun _ _ => rfl, rfl⟩⟩
  | m + 1, r, i, Q, o, h, e, ht => by
    have k1 : ¬ 4 ≤ (r : Int) := by omega
    have kr : r < 1000 := by omega
    have hr4 : r < 4 := by omega
    have hm1 : r + 1 + m = 4 := by omega
    have hj : 18 + 34 * l + r < 154 := by omega
    obtain ⟨h1, a1, a2, a3⟩ := c_readFigure ht
    rw [q_Tx_readLabel_17, if_neg k1, a1, Option.bind_some]
    dsimp only
    rw [c_isTold a2, Option.bind_some]
    dsimp only
    by_cases q : tld Q (fgS T n i).1
    · have es : lbR T n l (m + 1) r i Q = lbR T n l m (r + 1) (fgS T n i).2 (ru Q (18 + 34 * l + r) (fgS T n i).1) := by
        show iteP _ _ _ = _
        rw [iteP_t q]
      have r2 := TI_row a2 (Zr_ru a2.2.2.2.2 (fgS T n i).1 hj)
      obtain ⟨h', z1, z2⟩ := c_lb17 h4 m (r + 1) (fgS T n i).2 (ru Q (18 + 34 * l + r) (fgS T n i).1) (some (.inl (fgS T n i).1)) _ hm1 r2
      refine ⟨h', TX_tr a3 (TX_tr (TX_row h1 r2.2.2.2.2) z1), ?_⟩
      rw [b2i_t q, if_pos (by decide), p_7_0 a2.1, Option.bind_some, t8, c_setWanted (TI_pg a2) h4 hr4, Option.bind_some, show h1.2 (8 + 1) = Q from a2.2.2.2.1, w32_nn r kr, es]
      rcases z2 with ⟨z2, z3⟩ | ⟨j, R, o', z2, z3, z4, z5, z6⟩
      · exact Or.inl ⟨z2, z3⟩
      · refine Or.inr ⟨j, R, o', z2, z3, z4, fun a ha => ?_, ?_⟩
        · rw [z5 a ha, ru_d _ _ (by omega)]
        · rw [z6]; exact ru_d _ _ (by omega)
    · have es : lbR T n l (m + 1) r i Q = none := by
        show iteP _ _ _ = _
        rw [iteP_f q]
      rw [b2i_f q, if_neg (by decide)]
      exact ⟨h1, a3, Or.inl ⟨es, rfl⟩⟩
theorem c_lb66 {l : Nat} (h4 : l < 4) : ∀ (m f i : Nat) (Q : Nat → Int) (o : Option mV) (h : mH), f + m = 3 → TI L n T i Q h → pH Q l = (f : Int) →
    ∃ h', TX h h' ∧ ((lbK T n l m i Q = none ∧ B_Tx_readLabel_66 7 (l : Int) (f : Int) o h = some (0, h')) ∨ ∃ j R o' f', lbK T n l m i Q = some (j, R) ∧ B_Tx_readLabel_66 7 (l : Int) (f : Int) o h = B_Tx_readLabel_111 7 (l : Int) f' o' h' ∧ TI L n T j R h' ∧ ∀ a, a < 18 → R a = Q a)
  | 0, f, i, Q, o, h, e, ht, hf => by
    have : f = 3 := by omega
    subst this
    exact ⟨h, TX_rf h, Or.inr ⟨i, Q, o, _, rfl, by rw [q_Tx_readLabel_66, if_pos (by decide)], ht, fun _ _ => rfl⟩⟩
  | m + 1, f, i, Q, o, h, e, ht, hf => by
    have k1 : ¬ 3 ≤ (f : Int) := by omega
    have kf : f < 1000 := by omega
    have hf3 : f < 3 := by omega
    have hm1 : f + 1 + m = 3 := by omega
    rw [q_Tx_readLabel_66, if_neg k1, c_peek ht, Option.bind_some]
    dsimp only
    rw [c_isFigure, Option.bind_some]
    dsimp only
    by_cases q : isFg (pk T n i)
    · obtain ⟨h1, a1, a2, a3⟩ := c_readFigure ht
      have e1 : fgS T n i = (pk T n i - 48, i + 1) := iteP_t q _ _
      rw [e1] at a1 a2
      rw [b2i_t q, if_neg (by decide), a1, Option.bind_some]
      dsimp only
      rw [c_isTold a2, Option.bind_some]
      dsimp only
      by_cases r : tld Q (pk T n i - 48)
      · have es : lbK T n l (m + 1) i Q = lbK T n l m (i + 1) (addB Q l (pk T n i - 48)) := by
          show iteP _ _ _ = _
          rw [iteP_t q, iteP_t r]
        have r2 := TI_row a2 (Zr_addB a2.2.2.2.2 h4 hf hf3 (pk T n i - 48))
        have hn2 : pH (addB Q l (pk T n i - 48)) l = ((f + 1 : Nat) : Int) := by rw [addB_n, hf]; rfl
        obtain ⟨h', z1, z2⟩ := c_lb66 h4 m (f + 1) (i + 1) (addB Q l (pk T n i - 48)) (some (.inl (pk T n i - 48))) _ hm1 r2 hn2
        refine ⟨h', TX_tr a3 (TX_tr (TX_row h1 r2.2.2.2.2) z1), ?_⟩
        rw [b2i_t r, if_pos (by decide), p_7_0 a2.1, Option.bind_some, t8, c_addBelow a2 h4 hf hf3, Option.bind_some, w32_nn f kf, es]
        rcases z2 with ⟨z2, z3⟩ | ⟨j, R, o', f', z2, z3, z4, z5⟩
        · exact Or.inl ⟨z2, z3⟩
        · exact Or.inr ⟨j, R, o', f', z2, z3, z4, fun a ha => by rw [z5 a ha, addB_o ha]⟩
      · have es : lbK T n l (m + 1) i Q = none := by
          show iteP _ _ _ = _
          rw [iteP_t q, iteP_f r]
        rw [b2i_f r, if_neg (by decide)]
        exact ⟨h1, a3, Or.inl ⟨es, rfl⟩⟩
    · have es : lbK T n l (m + 1) i Q = some (i, Q) := by
        show iteP _ _ _ = _
        rw [iteP_f q]
      rw [b2i_f q, if_pos rfl]
      exact ⟨h, TX_rf h, Or.inr ⟨i, Q, o, _, es, rfl, ht, fun _ _ => rfl⟩⟩
theorem c_lb111 {l k : Nat} {S : Nat → Int} (h4 : l < 4) (ht : TI L n T k S h) (h0 : 0 ≤ pL S) (h9 : pL S < 1000) (f' : Int) (o' : Option mV) : Itm L n T h (lbE2 T n l (some (k, S))) (B_Tx_readLabel_111 7 (l : Int) f' o' h) := by
  rw [show lbE2 T n l (some (k, S)) = iteP (pk T n k = 44 ∧ (0 ≤ (nmS T n (k + 1)).1 ∧ (nmS T n (k + 1)).1 ≤ 1) ∧ pk T n (nmS T n (k + 1)).2 = 59) (some ((nmS T n (k + 1)).2 + 1, ru (ru S (26 + 34 * l) (nmS T n (k + 1)).1) 1 (pL S + 1))) none from rfl]
  obtain ⟨h1, a1, a2, a3⟩ := c_tpasses ht (c := 44) (by decide)
  rw [q_Tx_readLabel_111, a1, Option.bind_some]
  dsimp only
  by_cases q : pk T n k = 44
  · rw [iteP_t q] at a2
    obtain ⟨h2, b1, b2, b3⟩ := c_readNumber a2
    have z1 : Zr (ru S (26 + 34 * l) (nmS T n (k + 1)).1) := Zr_ru ht.2.2.2.2 _ (by omega)
    have c2 := TI_row b2 z1
    have e1 : pL (ru S (26 + 34 * l) (nmS T n (k + 1)).1) = pL S := ru_d _ _ (by omega)
    have z2 : Zr (ru (ru S (26 + 34 * l) (nmS T n (k + 1)).1) 1 (pL S + 1)) := Zr_ru z1 _ (by decide)
    have d2 := TI_row c2 z2
    refine Itm_tr a3 (Itm_tr b3 (Itm_tr (TX_row h2 z1) (Itm_tr (TX_row _ z2) ?_)))
    rw [b2i_t q, if_pos (by decide), b1, Option.bind_some]
    dsimp only
    rw [p_7_0 b2.1, Option.bind_some, t8, c_setOpen (TI_pg b2) h4, Option.bind_some, show h2.2 (8 + 1) = S from b2.2.2.2.1, p_7_0 c2.1, Option.bind_some, t8, c_addLabel c2 (by rw [e1]; exact h0) (by rw [e1]; exact h9), Option.bind_some, e1]
    by_cases r1 : (nmS T n (k + 1)).1 < 0
    · rw [if_pos r1, iteP_f (fun z => by omega)]
      exact ⟨_, TX_rf _, Or.inl ⟨rfl, rfl⟩⟩
    · rw [if_neg r1]
      by_cases r2 : 1 < (nmS T n (k + 1)).1
      · rw [if_pos r2, iteP_f (fun z => by omega)]
        exact ⟨_, TX_rf _, Or.inl ⟨rfl, rfl⟩⟩
      · obtain ⟨h5, e5, e6, e7⟩ := c_tpasses d2 (c := 59) (by decide)
        rw [if_neg r2, e5, Option.bind_some]
        dsimp only
        by_cases r3 : pk T n (nmS T n (k + 1)).2 = 59
        · rw [iteP_t r3] at e6
          rw [b2i_t r3, if_neg (by decide), iteP_t ⟨q, by omega, r3⟩]
          exact ⟨h5, e7, Or.inr ⟨_, _, rfl, rfl, e6⟩⟩
        · rw [b2i_f r3, if_pos rfl, iteP_f (fun z => r3 z.2.2)]
          exact ⟨h5, e7, Or.inl ⟨rfl, rfl⟩⟩
  · rw [b2i_f q, if_neg (by decide), iteP_f (fun z => q z.1)]
    exact ⟨h1, a3, Or.inl ⟨rfl, rfl⟩⟩
theorem c_readLabel (ht : TI L n T i Q h) (h0 : 0 ≤ pL Q) (h1 : pL Q ≤ 4) (hH : pL Q < 4 → pH Q (pL Q).toNat = 0) : Itm L n T h (labI T n i Q) (F_Tx_readLabel 7 h) := by
  have hQ : h.2 (8 + 1) = Q := ht.2.2.2.1
  unfold labI
  rw [q_Tx_readLabel _ _ (o_7 ht.1), p_7_0 ht.1, Option.bind_some, t8, c_labels (TI_pg ht), Option.bind_some, hQ]
  dsimp only
  by_cases q : pL Q < 4
  · rw [iteP_t q, if_pos (show Q 1 < 4 from q)]
    obtain ⟨l, hl⟩ := n_of h0
    have h4 : l < 4 := by omega
    have hH0 := hH q
    rw [hl, tn] at hH0
    rw [hl, tn, show Q 1 = (l : Int) from hl]
    obtain ⟨g, z1, z2⟩ := c_lb17 h4 4 0 i Q none h (by decide) ht
    rcases z2 with ⟨z2, z3⟩ | ⟨j, R, o', z2, z3, z4, z5, z6⟩
    · rw [z2]
      exact ⟨g, z1, Or.inl ⟨rfl, z3⟩⟩
    · rw [z2, show lbE1 T n l (some (j, R)) = iteP (pk T n j = 44) (lbE2 T n l (lbK T n l 3 (j + 1) R)) none from rfl]
      refine Itm_tr z1 ?_
      have z3' : B_Tx_readLabel_17 7 (l : Int) 0 none h = B_Tx_readLabel_17 7 (l : Int) 4 o' g := z3
      obtain ⟨g1, a1, a2, a3⟩ := c_tpasses z4 (c := 44) (by decide)
      rw [z3', q_Tx_readLabel_17, if_pos (by decide), a1, Option.bind_some]
      dsimp only
      by_cases w : pk T n j = 44
      · rw [iteP_t w] at a2
        rw [b2i_t w, if_pos (by decide), iteP_t w]
        obtain ⟨g2, y1, y2⟩ := c_lb66 h4 3 0 (j + 1) R o' g1 (by decide) a2 (by rw [z6, hH0]; rfl)
        refine Itm_tr a3 ?_
        rcases y2 with ⟨y2, y3⟩ | ⟨k, S, o2, f', y2, y3, y4, y5⟩
        · rw [y2]
          exact ⟨g2, y1, Or.inl ⟨rfl, y3⟩⟩
        · rw [y2]
          have y3' : B_Tx_readLabel_66 7 (l : Int) 0 o' g1 = B_Tx_readLabel_111 7 (l : Int) f' o2 g2 := y3
          rw [y3']
          have hLS : pL S = (l : Int) := by rw [← hl]; exact (y5 1 (by decide)).trans (z5 1 (by decide))
          exact Itm_tr y1 (c_lb111 h4 y4 (by omega) (by omega) f' o2)
      · rw [b2i_f w, if_neg (by decide), iteP_f w]
        exact ⟨g1, a3, Or.inl ⟨rfl, rfl⟩⟩
  · rw [iteP_f q, if_neg (show ¬ Q 1 < 4 from q)]
    exact ⟨h, TX_rf h, Or.inl ⟨rfl, rfl⟩⟩
end Tx
